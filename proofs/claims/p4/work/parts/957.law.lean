section
variable {g : ax_G} {A : ax_S → Prop} {h : ax_H}
def h00 : ax_H := (0, fun _ => (0, 0), fun _ _ => 0, fun _ _ => 0, fun _ _ => none)
def S0 : sT := (0, fun _ => 0, 0, -1, fun _ => 0, fun _ => D0, fun _ _ => 0, fun _ _ _ _ => 0)
def Im0 : Nat → Option sT := fun _ => none
theorem S0_ok : s_ok S0 := ⟨⟨fun s _ => Nat.zero_le _, fun k hk => absurd hk (Nat.not_lt_zero k), fun s k _ _ hk => absurd hk (Nat.not_lt_zero k)⟩, Nat.zero_le _, fun i _ => rfl⟩
theorem Im0_ok : im_ok Im0 := fun k S' _ e => by cases e
theorem inv_le {B B2 : Nat} (q : B ≤ B2) (a : inv B h) : inv B2 h := by
  obtain ⟨S, Im, tp, a, b1, b2⟩ := a
  exact ⟨S, Im, tp, a, b1, Nat.le_trans b2 q⟩
theorem st0_new {h2 h5 : ax_H} (n2 : h2.1 = 77) (cs : cs_st h2) (z2 : tz h2 1) (im : ∀ k, ax_r h2 34 k = none) (g5 : ag (fun b => b < 77) (ax_nw h2 10 0) h5) (n5 : h5.1 = 77 + 26) (mo : mo_st h5 77) (z5 : ∀ j, j < 25 → ∀ k, ax_i h5 (77 + 1 + j) k = if j = 3 ∧ k = 0 then -1 else 0) : inv 103 h5 := by
  have gg : ag (fun b => b < 77) h2 h5 := ag_tr (ag_nw (by rw [n2]; decide)) g5
  have c5 : cs_st h5 := cs_st_ag gg (fun b hb => hb) cs
  obtain ⟨t1, t2, t3, t4, t5⟩ := tz_ag gg ⟨by decide, by decide, by decide⟩ z2
  have zz : ∀ j, j < 25 → j ≠ 3 → ∀ k, ax_i h5 (77 + 1 + j) k = 0 := fun j hj h3 k => by rw [z5 j hj k, if_neg (fun q => h3 q.1)]
  have c : ci_at h5 S0 Im0 (fun _ => 0) := ⟨c5, ⟨⟨c5.2.1, fun s _ => ⟨Nat.zero_le _, t5 s⟩, fun k hk => absurd hk (Nat.not_lt_zero k), fun s k _ _ hk => absurd hk (Nat.not_lt_zero k)⟩, t1, t2, t3, fun i _ => t4 i, c5.2.2.2.2.2.2.1, c5.2.2.2.2.2.2.2⟩, fun k _ => ⟨fun _ => by rw [(gg 34 (by decide)).2.2.2]; exact im k, fun S' e => by cases e⟩, fun j k _ _ _ e => absurd rfl e⟩
  have m : mi_at h5 S0 Im0 := ⟨mo, ⟨⟨fun s _ => zz 4 (by decide) (by decide) _, fun k hk => absurd hk (Nat.not_lt_zero k), fun s k _ _ hk => absurd hk (Nat.not_lt_zero k)⟩, zz 1 (by decide) (by decide) 0, zz 2 (by decide) (by decide) 0, z5 3 (by decide) 0, fun i _ => zz 0 (by decide) (by decide) _⟩, fun k _ => ⟨fun _ => zz 24 (by decide) (by decide) k, fun S' e => by cases e⟩⟩
  exact ⟨S0, Im0, fun _ => 0, ⟨c, m, S0_ok, Im0_ok⟩, by rw [n5]; decide, by rw [n5]; decide⟩
theorem law_sm : ∀ n : Nat, n < 6 → Int32.ofNat n - 6 < 0 := by decide
theorem law_ix {L i : Nat} (hL : L ≤ 3072) (hi : i ≤ 512) (q : ¬ (Int32.ofNat L - (6 : Int32) < nI (6 * i))) : 6 * i + 6 ≤ L := by
  rcases Nat.lt_or_ge L 6 with c | c
  · refine absurd ?_ q
    have z := law_sm L c
    have p := nI_toInt (n := 6 * i) (by omega)
    rw [Int32.lt_iff_toInt_lt] at z ⊢
    have z0 : (0 : Int32).toInt = 0 := rfl
    omega
  · obtain ⟨n, rfl⟩ := Nat.exists_eq_add_of_le c
    rw [show Int32.ofNat (6 + n) - (6 : Int32) = nI n from ni_sb] at q
    rcases Nat.lt_or_ge n (6 * i) with d | d
    · exact absurd (nI_lt d (by omega)) q
    · omega
theorem law_in {L i k : Nat} (hL : L ≤ 3072) (c : 6 * i + 6 ≤ L) (hk : k < 6) : vp_in (nI (6 * i) + nI k) L := by
  rw [nI_add]
  exact vp_in_nI (by omega) (by omega)
set_option maxRecDepth 100000 in
theorem law_loop (hA : ax_HA (tL_law g) (fun v _ => v = some (.int 1)) A) (hL : g.2.2.1 400 ≤ 3072) : ∀ (f i u1 u2 : Nat) (h : ax_H), i + f = 512 → inv (103 + 33 * i) h → u1 ≤ 103 + 33 * i → u2 ≤ 40000 + 1138 * i → A (18, [some (.ref 1000300), some (.ref 0), some (.ref 77), some (.int (nI (6 * i)))], [], h, u1, u2) := by
  intro f
  induction f with
  | zero =>
    intro i u1 u2 h e iv b1 b2
    refine vL_law_18 hA ⟨rfl, fun _ => ⟨⟨by omega, by omega⟩, Or.inr rfl, rfl⟩, fun q => ?_⟩
    exact absurd (law_ix hL (by omega) q) (by omega)
  | succ f ih =>
    intro i u1 u2 h e iv b1 b2
    refine vL_law_18 hA ⟨rfl, fun _ => ⟨⟨by omega, by omega⟩, Or.inr rfl, rfl⟩, fun q => ?_⟩
    have L := law_ix hL (by omega) q
    have i1 : vp_in (nI (6 * i) + (1 : Int32)) (g.2.2.1 400) := law_in (k := 1) hL L (by decide)
    have i2 : vp_in (nI (6 * i) + (2 : Int32)) (g.2.2.1 400) := law_in (k := 2) hL L (by decide)
    have i3 : vp_in (nI (6 * i) + (3 : Int32)) (g.2.2.1 400) := law_in (k := 3) hL L (by decide)
    have i4 : vp_in (nI (6 * i) + (4 : Int32)) (g.2.2.1 400) := law_in (k := 4) hL L (by decide)
    have i5 : vp_in (nI (6 * i) + (5 : Int32)) (g.2.2.1 400) := law_in (k := 5) hL L (by decide)
    have i0 : vp_in (nI (6 * i)) (g.2.2.1 400) := vp_in_nI (by omega) (by omega)
    have nx : ∀ (v1 v2 : Nat) (h2 : ax_H), inv (103 + 33 * (i + 1)) h2 → v1 ≤ 103 + 33 * (i + 1) → v2 ≤ 40000 + 1138 * (i + 1) → A (1861, [some (.ref 1000300), some (.ref 0), some (.ref 77), some (.int (nI (6 * i)))], [], h2, v1, v2) := by
      intro v1 v2 h2 iv2 c1 c2
      have t := ih (i + 1) v1 v2 h2 (by omega) iv2 c1 c2
      rw [show nI (6 * (i + 1)) = nI (6 * i) + (6 : Int32) from (nI_add (6 * i) 6).symm] at t
      exact vL_law_1861 hA t
    obtain ⟨S, Im, tp, a, b⟩ := iv
    have s9 := a.1.1.1.1
    have c1 : u1 + 0 ≤ 600000 := by omega
    have c2 : u2 + 0 ≤ 7302250 := by omega
    have up : ∀ (B2 : Nat) (h2 : ax_H), inv B2 h2 → B2 ≤ 103 + 33 * (i + 1) → inv (103 + 33 * (i + 1)) h2 := fun B2 h2 q w => inv_le w q
    have d1 : u1 ≤ 103 + 33 * (i + 1) := by omega
    have d2 : u2 ≤ 40000 + 1138 * (i + 1) := by omega
    have d3 : 103 + 33 * i ≤ 103 + 33 * (i + 1) := by omega
    have d4 : 103 + 33 * i + 33 ≤ 103 + 33 * (i + 1) := by omega
    have d5 : u1 + 33 ≤ 103 + 33 * (i + 1) := by omega
    have d6 : u2 + 1138 ≤ 40000 + 1138 * (i + 1) := by omega
    have c3 : u1 + 33 ≤ 600000 := by omega
    have c4 : u2 + 1138 ≤ 7302250 := by omega
    have c5 : 103 + 33 * i < 600000 := by omega
    have j : ∀ h2, inv (103 + 33 * i) h2 → A (1861, [some (.ref 1000300), some (.ref 0), some (.ref 77), some (.int (nI (6 * i)))], [], h2, u1, u2) := by
      intro h2 q
      exact nx u1 u2 h2 (up _ h2 q d3) d1 d2
    have t_feed := lc_feed hA (x3 := nI (6 * i)) (u1 := u1) (u2 := u2) i1 i2 i3 i4 i5 c1 c2 s9 (fun x1 x2 x3 x4 x5 => prI_N (g_feed a b x1 x2 x3 x4 x5)) j
    have t_end := lc_end hA (x3 := nI (6 * i)) (u1 := u1) (u2 := u2) i1 c1 c2 s9 (fun x1 => prI_N (g_end a b x1)) j
    have t_text := lc_text hA (x3 := nI (6 * i)) (u1 := u1) (u2 := u2) i1 i2 c1 c2 s9 (fun x1 x2 => g_text a b x1 x2) j
    have t_fault := lc_fault hA (x3 := nI (6 * i)) (u1 := u1) (u2 := u2) i1 c1 c2 s9 (fun x1 => prI_N (g_fault a b x1)) j
    have t_republic := lc_republic hA (x3 := nI (6 * i)) (u1 := u1) (u2 := u2) i1 i2 c1 c2 s9 (fun x1 x2 => prI_N (g_republic a b x1 x2)) j
    have t_person := lc_person hA (x3 := nI (6 * i)) (u1 := u1) (u2 := u2) i1 i2 i3 c1 c2 s9 (fun x1 x2 x3 => prI_N (g_person a b x1 x2 x3)) j
    have t_value := lc_value hA (x3 := nI (6 * i)) (u1 := u1) (u2 := u2) i1 i2 i3 c1 c2 s9 (fun x1 x2 x3 => prI_N (g_value a b x1 x2 x3)) j
    have t_odds := lc_odds hA (x3 := nI (6 * i)) (u1 := u1) (u2 := u2) i1 i2 i3 c1 c2 s9 (fun x1 x2 x3 _ => prI_N (g_odds a b x1 x2 x3)) j
    have t_day := lc_day hA (x3 := nI (6 * i)) (u1 := u1) (u2 := u2) i1 i2 c1 c2 s9 (fun x1 x2 => prI_N (g_day a b x1 x2)) j
    have t_purse := lc_purse hA (x3 := nI (6 * i)) (u1 := u1) (u2 := u2) i1 i2 i3 i4 c1 c2 s9 (fun x1 x2 x3 x4 => n_purse a b x1 x2 x3 x4) j
    have t_likely := lc_likely hA (x3 := nI (6 * i)) (u1 := u1) (u2 := u2) i1 i2 i3 i4 c1 c2 s9 (fun x1 x2 x3 x4 _ => n_likely a b x1 x2 x3 x4) j
    have t_drawn := lc_drawn hA (x3 := nI (6 * i)) (u1 := u1) (u2 := u2) i1 i2 i3 i4 c1 c2 s9 (fun x1 x2 x3 x4 => n_drawn a b x1 x2 x3 x4) j
    have t_mean := lc_mean hA (x3 := nI (6 * i)) (u1 := u1) (u2 := u2) i1 i2 i3 c1 c2 s9 (fun x1 x2 x3 _ => prI_N (g_mean a b x1 x2 x3)) j
    have t_gain := lc_gain hA (x3 := nI (6 * i)) (u1 := u1) (u2 := u2) i1 i2 i3 i4 c1 c2 s9 (fun x1 x2 x3 x4 _ => prI_N (g_gain a b x1 x2 x3 x4)) j
    have t_wish := lc_wish hA (x3 := nI (6 * i)) (u1 := u1) (u2 := u2) i1 i2 c1 c2 s9 (fun x1 x2 => prI_N (g_wish a b x1 x2)) j
    have t_buyer := lc_buyer hA (x3 := nI (6 * i)) (u1 := u1) (u2 := u2) i1 i2 c1 c2 s9 (fun x1 x2 => n_buyer a b x1 x2) j
    have t_promise := lc_promise hA (x3 := nI (6 * i)) (u1 := u1) (u2 := u2) i1 i2 i3 i4 c1 c2 s9 (fun x1 x2 x3 x4 _ => prI_N (g_promise a b x1 x2 x3 x4)) j
    have t_two := lc_two hA (x3 := nI (6 * i)) (u1 := u1) (u2 := u2) i1 i2 i3 i4 c1 c2 s9 (fun x1 x2 x3 x4 => prI_N (g_two a b x1 x2 x3 x4)) j
    have t_shift := lc_shift hA (x3 := nI (6 * i)) (u1 := u1) (u2 := u2) i1 i2 i3 c1 c2 s9 (fun x1 x2 x3 => n_shift a b x1 x2 x3) j
    have t_feud := lc_feud hA (x3 := nI (6 * i)) (u1 := u1) (u2 := u2) i1 i2 c1 c2 s9 (fun x1 x2 => n_feud a b x1 x2) j
    have t_errand := lc_errand hA (x3 := nI (6 * i)) (u1 := u1) (u2 := u2) i1 i2 i3 c1 c2 s9 (fun x1 x2 x3 => prI_N (g_errand a b x1 x2 x3)) j
    have t_plan := lc_plan hA (x3 := nI (6 * i)) (u1 := u1) (u2 := u2) i1 i2 i3 c1 c2 s9 (fun x1 x2 x3 => n_plan a b x1 x2 x3) j
    have t_train := lc_train hA (x3 := nI (6 * i)) (u1 := u1) (u2 := u2) i1 i2 i3 c1 c2 s9 (fun x1 x2 x3 => prI_N (g_train a b x1 x2 x3)) j
    have t_holds := lc_holds hA (x3 := nI (6 * i)) (u1 := u1) (u2 := u2) i1 i2 i3 c1 c2 s9 (fun x1 x2 x3 => n_holds a b x1 x2 x3) j
    have t_clock := lc_clock hA (x3 := nI (6 * i)) (u1 := u1) (u2 := u2) i1 i2 i3 i4 c1 c2 s9 (fun x1 x2 x3 x4 => n_clock a b x1 x2 x3 x4) j
    have t_sight := lc_sight hA (x3 := nI (6 * i)) (u1 := u1) (u2 := u2) i1 i2 i3 c1 c2 s9 (fun x1 x2 x3 => prI_N (g_sight a b x1 x2 x3)) j
    have t_fits := lc_fits hA (x3 := nI (6 * i)) (u1 := u1) (u2 := u2) i1 i2 i3 c1 c2 s9 (fun x1 x2 x3 => n_fits a b x1 x2 x3) j
    have t_reign := lc_reign hA (x3 := nI (6 * i)) (u1 := u1) (u2 := u2) i1 i2 i3 c1 c2 s9 (fun x1 x2 x3 => n_reign a b x1 x2 x3) j
    have t_hope := lc_hope hA (x3 := nI (6 * i)) (u1 := u1) (u2 := u2) i1 i2 i3 i4 c1 c2 s9 (fun x1 x2 x3 x4 _ => n_hope a b x1 x2 x3 x4) j
    have t_doom := lc_doom hA (x3 := nI (6 * i)) (u1 := u1) (u2 := u2) i1 i2 i3 i4 c1 c2 s9 (fun x1 x2 x3 x4 _ => n_doom a b x1 x2 x3 x4) j
    have t_ruling := lc_ruling hA (x3 := nI (6 * i)) (u1 := u1) (u2 := u2) i1 i2 c1 c2 s9 (fun x1 x2 => n_ruling a b x1 x2) j
    have t_trust := lc_trust hA (x3 := nI (6 * i)) (u1 := u1) (u2 := u2) i1 i2 i3 c1 c2 s9 (fun x1 x2 x3 _ => n_trust a b x1 x2 x3) j
    have t_tight := lc_tight hA (x3 := nI (6 * i)) (u1 := u1) (u2 := u2) i1 i2 c1 c2 s9 (fun x1 x2 => n_tight a b x1 x2) j
    have t_free := lc_free hA (x3 := nI (6 * i)) (u1 := u1) (u2 := u2) i1 i2 i3 c1 c2 s9 (fun x1 x2 x3 _ => n_free a b x1 x2 x3) j
    have t_count := lc_count hA (x3 := nI (6 * i)) (u1 := u1) (u2 := u2) i1 c1 c2 s9 (fun x1 => prI_N (g_count a b x1)) j
    have t_image := lc_image hA (x3 := nI (6 * i)) (u1 := u1) (u2 := u2) i1 c3 c4 s9 (fun x1 => prI_N (g_image a b c5 x1)) (fun h2 q => nx (u1 + 33) (u2 + 1138) h2 (up _ h2 q d4) d5 d6)
    have t_again := lc_again hA (x3 := nI (6 * i)) (u1 := u1) (u2 := u2) i1 c1 c2 s9 (fun x1 => prI_N (g_again a b x1)) j
    exact ⟨rfl, i0, ⟨fun _ => t_feed, fun _ => ⟨fun _ => t_end, fun _ => ⟨fun _ => t_text, fun _ => ⟨fun _ => t_fault, fun _ => ⟨fun _ => t_republic, fun _ => ⟨fun _ => t_person, fun _ => ⟨fun _ => t_value, fun _ => ⟨fun _ => t_odds, fun _ => ⟨fun _ => t_day, fun _ => ⟨fun _ => t_purse, fun _ => ⟨fun _ => t_likely, fun _ => ⟨fun _ => t_drawn, fun _ => ⟨fun _ => t_mean, fun _ => ⟨fun _ => t_gain, fun _ => ⟨fun _ => t_wish, fun _ => ⟨fun _ => t_buyer, fun _ => ⟨fun _ => t_promise, fun _ => ⟨fun _ => t_two, fun _ => ⟨fun _ => t_shift, fun _ => ⟨fun _ => t_feud, fun _ => ⟨fun _ => t_errand, fun _ => ⟨fun _ => t_plan, fun _ => ⟨fun _ => t_train, fun _ => ⟨fun _ => t_holds, fun _ => ⟨fun _ => t_clock, fun _ => ⟨fun _ => t_sight, fun _ => ⟨fun _ => t_fits, fun _ => ⟨fun _ => t_reign, fun _ => ⟨fun _ => t_hope, fun _ => ⟨fun _ => t_doom, fun _ => ⟨fun _ => t_ruling, fun _ => ⟨fun _ => t_trust, fun _ => ⟨fun _ => t_tight, fun _ => ⟨fun _ => t_free, fun _ => ⟨fun _ => t_count, fun _ => ⟨fun _ => t_image, fun _ => ⟨fun _ => t_again, fun _ => j h ⟨S, Im, tp, a, b⟩⟩⟩⟩⟩⟩⟩⟩⟩⟩⟩⟩⟩⟩⟩⟩⟩⟩⟩⟩⟩⟩⟩⟩⟩⟩⟩⟩⟩⟩⟩⟩⟩⟩⟩⟩⟩⟩⟩
theorem pt_law (hA : ax_HA (tL_law g) (fun v _ => v = some (.int 1)) A) (hL : g.2.2.1 400 ≤ 3072) : A (0, ax_en [.ref 1000300] 4, [], h00, 0, 0) := by
  refine vL_law_0 hA ⟨⟨Nat.le_of_ble_eq_true rfl, Nat.le_of_ble_eq_true rfl, Nat.le_of_ble_eq_true rfl⟩, rfl, ⟨Nat.le_of_ble_eq_true rfl, Nat.le_of_ble_eq_true rfl, Nat.le_of_ble_eq_true rfl⟩, rfl, c_init9 rfl rfl (fun h2 n2 cs z2 im => ⟨rfl, ?_⟩)⟩
  have s10 : (ax_s (ax_nw h2 10 0) 77).1 = 10 := by rw [as_nw, if_pos n2.symm]
  rw [n2]
  refine ⟨⟨Nat.le_of_ble_eq_true rfl, Nat.le_of_ble_eq_true rfl, Nat.le_of_ble_eq_true rfl⟩, rfl, ⟨Nat.le_of_ble_eq_true rfl, Nat.le_of_ble_eq_true rfl, Nat.le_of_ble_eq_true rfl⟩, s10, c_init10 (m := 77) (by rw [sz_nw, n2]) (by decide) s10 (fun h5 g5 n5 mo z5 => ⟨rfl, ?_⟩)⟩
  exact law_loop hA hL 512 0 _ _ h5 rfl (st0_new n2 cs z2 im g5 n5 mo z5) (Nat.le_of_ble_eq_true rfl) (Nat.le_of_ble_eq_true rfl)
end
