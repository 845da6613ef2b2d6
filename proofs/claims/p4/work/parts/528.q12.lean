section
variable {g : ax_G} {Ret : Option Value → ax_H → Prop} {h : ax_H} {z : Nat → Nat} {DD : Nat → rD} {N : Nat → Nat → Nat} {C : Nat → Nat → Nat → Nat → Int32} {S : sT} {Im : Nat → Option sT} {tp : Nat → Nat} {B : Nat}
theorem t10_purse {x1 x2 x3 x4 : Int32} (a : tc h z DD N C) (hq : ∀ (v : Int32) h', ax_same md_F h h' → Ret (some (.int v)) h') : mX10_purse g [.ref 77, .int x1, .int x2, .int x3, .int x4] h Ret := by
  obtain ⟨a1, T1, hs1⟩ := q_code (v := 0) a.2.1 a.2.2.2.1
  refine eX10_purse ⟨a.2.1.1, ?_⟩
  intro h1
  refine ⟨a1.1, q_hand a1 T1 a.2.2.2.2 (fun q => ⟨_, rfl, fun _ => hq _ _ hs1, fun q => absurd rfl q⟩) (fun k hk ex ok h' hs hm => ⟨_, rfl, fun q => absurd q (by decide), fun _ => ⟨hm.1.1.1.1, ?_⟩⟩)⟩
  have L := lvm_hm (sm_tr hs1 hs) hm
  have b := tc_md L.1 a
  have Lu : lvm h (ax_pi h' 77 36 x2) k (DD k) := lvm_mr L (mr_f (J := fun j => j = 36) (F := fun _ => False) rfl) (fun j hj => by omega) (fun a ha => ha.elim)
  have s0 : (ax_s (ax_pi h' 77 36 x2) 77).1 = 10 := b.2.1.1
  refine c_mhasWeek b.2.1 b.2.2.2.1 b.2.2.2.2 ⟨_, rfl, fun _ => hq _ _ Lu.1, fun q => ?_⟩
  obtain ⟨w, hw, rfl⟩ := sp_in_ix (by have := a.2.2.2.2.1 1 (by decide); omega) (b2i_n0.mp q)
  refine ⟨fun e => ⟨s0, t_liveDays a ok Lu hw ai_eq (fun h2 L2 => ⟨_, rfl, fun q => absurd rfl q, fun _ => hq _ _ L2.1⟩) (fun h2 L2 _ _ => ?_)⟩, fun e => ⟨s0, ?_⟩⟩
  · obtain ⟨pu, mc, mw⟩ := L2.2
    exact ⟨_, rfl, fun _ => ⟨fun q => absurd e q, fun _ => ⟨mc.1.1.1, hq _ _ L2.1⟩⟩, fun q => absurd q (by decide)⟩
  · obtain ⟨pu, mc, mw⟩ := Lu.2
    refine c_misOne mc.1 ⟨_, rfl, fun _ => hq _ _ Lu.1, fun q => ⟨s0, t_liveDays a ok Lu hw ai_eq (fun h2 L2 => ⟨_, rfl, fun q => absurd rfl q, fun _ => hq _ _ L2.1⟩) (fun h2 L2 _ _ => ?_)⟩⟩
    obtain ⟨pu2, mc2, mw2⟩ := L2.2
    obtain ⟨p, hp, rfl⟩ := sp_in_ix (by have := ok.2.1; omega) (b2i_n0.mp q)
    obtain ⟨e1, e2⟩ := mo_pu mc2.1.1
    exact ⟨_, rfl, fun _ => ⟨fun _ => ⟨mc2.1.1.1, _, e1, by rw [e2], by rw [e2]; exact vp_in_nI (by have := ok.2.1; omega) (by decide), hq _ _ L2.1⟩, fun _ => ⟨mc2.1.1.1, hq _ _ L2.1⟩⟩, fun q => absurd q (by decide)⟩
theorem t10_likely {x1 x2 x3 x4 : Int32} (a : tc h z DD N C) (hq : ∀ (v : Int64) h', ax_same md_F h h' → Ret (some (.long v)) h') : mX10_likely g [.ref 77, .int x1, .int x2, .int x3, .int x4] h Ret := by
  obtain ⟨a1, T1, hs1⟩ := q_code (v := 0) a.2.1 a.2.2.2.1
  refine eX10_likely ⟨a.2.1.1, ?_⟩
  intro h1
  refine c_min ⟨_, rfl, fun _ => hq _ _ hs1, fun _ => ⟨a1.1, q_hand a1 T1 a.2.2.2.2 (fun q => ⟨_, rfl, fun _ => hq _ _ hs1, fun q => absurd rfl q⟩) (fun k hk ex ok h' hs hm => ⟨_, rfl, fun q => absurd q (by decide), fun _ => ⟨hm.1.1.1.1, ?_⟩⟩)⟩⟩
  have L := lvm_hm (sm_tr hs1 hs) hm
  have b := tc_md L.1 a
  have Lu : lvm h (ax_pi h' 77 36 x2) k (DD k) := lvm_mr L (mr_f (J := fun j => j = 36) (F := fun _ => False) rfl) (fun j hj => by omega) (fun a ha => ha.elim)
  have s0 : (ax_s (ax_pi h' 77 36 x2) 77).1 = 10 := b.2.1.1
  refine c_mhasWeek b.2.1 b.2.2.2.1 b.2.2.2.2 ⟨_, rfl, fun _ => hq _ _ Lu.1, fun q => ?_⟩
  obtain ⟨w, hw, rfl⟩ := sp_in_ix (by have := a.2.2.2.2.1 1 (by decide); omega) (b2i_n0.mp q)
  refine ⟨s0, t_liveDays a ok Lu hw ai_eq (fun h2 L2 => ⟨_, rfl, fun q => absurd rfl q, fun _ => hq _ _ L2.1⟩) (fun h2 L2 b1 b2 => ?_)⟩
  obtain ⟨pu, mc, mw⟩ := L2.2
  exact ⟨_, rfl, fun _ => ⟨mc.1.1.1, mc.1.1.1, c_part b1 b2 ⟨_, rfl, hq _ _ L2.1⟩⟩, fun q => absurd q (by decide)⟩
theorem n_purse (a : IV h S Im tp) (b : 103 ≤ h.1 ∧ h.1 ≤ B) (x1 x2 x3 x4 : Int32) : prN (mX9_purse g) (mX10_purse g) [.ref 0, .int x1, .int x2, .int x3, .int x4] [.ref 77, .int x1, .int x2, .int x3, .int x4] h (inv B) := pr_n a b (fun Ret k => t9_purse (iv_tc a) k) (fun h1 Ret a1 k => t10_purse (iv_tc a1) k)
theorem n_likely (a : IV h S Im tp) (b : 103 ≤ h.1 ∧ h.1 ≤ B) (x1 x2 x3 x4 : Int32) : prM (mX9_likely g) (mX10_likely g) [.ref 0, .int x1, .int x2, .int x3, .int x4] [.ref 77, .int x1, .int x2, .int x3, .int x4] h (inv B) := pr_m a b (fun Ret k => t9_likely (iv_tc a) k) (fun h1 Ret a1 k => t10_likely (iv_tc a1) k)
/-! DRAWN, of the reference -/
def sNn (f : Nat → Nat) : Nat → Nat
  | 0 => 0
  | n + 1 => sNn f n + f n
theorem sumN_nI {W : Nat → Nat} : ∀ n, sumN (fun q => nI (W q)) n = nI (sNn W n)
  | 0 => nI_0.symm
  | n + 1 => by show sumN (fun q => nI (W q)) n + nI (W n) = nI (sNn W n + W n); rw [sumN_nI n, nI_add]
theorem sNn_one : ∀ n, sNn (fun _ => 1) n = n
  | 0 => rfl
  | n + 1 => by show sNn (fun _ => 1) n + 1 = n + 1; rw [sNn_one n]
theorem w_sum {D : rD} (ok : rd_ok D) (x : Int32) : ∃ W : Nat → Nat, (∀ q, sp_w D x q = nI (W q) ∧ W q ≤ 9) ∧ sp_t D x = nI (sNn W (dH D)) := by
  have lo : ∀ q, ∃ n, n ≤ 9 ∧ sp_lo D x (nI q) = nI n := fun q => by
    have b := sp_lo_bd ok x (nI q)
    exact ⟨(sp_lo D x (nI q)).toInt.toNat, by omega, i_inj (by rw [nI_toInt (by omega)]; omega)⟩
  by_cases e : sp_ws D x = 0
  · refine ⟨fun _ => 1, fun q => ⟨?_, by show 1 ≤ 9; decide⟩, ?_⟩
    · unfold sp_w; rw [if_pos e]; rfl
    · unfold sp_t; rw [if_pos e, sNn_one]
  · refine ⟨fun q => (lo q).choose, fun q => ⟨?_, (lo q).choose_spec.1⟩, ?_⟩
    · unfold sp_w; rw [if_neg e]; exact (lo q).choose_spec.2
    · unfold sp_t; rw [if_neg e]; unfold sp_ws
      rw [← sumN_nI]
      exact sumN_congr (fun i _ => (lo i).choose_spec.2)
theorem ush16 (x : Int32) : ∃ n, n < 65536 ∧ (x.toUInt32 >>> ((16 : Int32).toUInt32 &&& Int32.toUInt32 31)).toInt32 = nI n := by
  refine ⟨(x.toUInt32 >>> ((16 : Int32).toUInt32 &&& Int32.toUInt32 31)).toNat, ?_, ?_⟩
  · rw [UInt32.toNat_shiftRight, show ((16 : Int32).toUInt32 &&& Int32.toUInt32 31).toNat % 32 = 16 from by decide +kernel, Nat.shiftRight_eq_div_pow]
    have := UInt32.toNat_lt x.toUInt32
    omega
  · exact congrArg UInt32.toInt32 (UInt32.ofNat_toNat (x := x.toUInt32 >>> ((16 : Int32).toUInt32 &&& Int32.toUInt32 31))).symm
theorem sN_lt {W : Nat → Nat} {i H : Nat} (hi : i ≤ H) (h1 : sNn W i < sNn W H) : i < H := by
  rcases Nat.lt_or_ge i H with q | q
  · exact q
  · have : i = H := by omega
    rw [this] at h1; exact absurd h1 (Nat.lt_irrefl _)
theorem c_mdrawHour {m ρ : Nat} {D : rD} {mo pu : Nat → Int32} {vl : Nat → Nat → Int32} {x : Int32} (ok : rd_ok D) (a : mc_at h m ρ D mo pu vl) (b : mw_at h m (dH D) (sp_w D x) (sp_t D x) x) (hq : ∀ y v, y < dH D → Ret (some (.int (nI y))) (ax_pi h m 39 v)) : mX10_drawHour g [.ref m] h Ret := by
  have H12 := ok.1.2
  obtain ⟨W, hW, hT⟩ := w_sum ok x
  have tb := sp_t_bd ok x
  have τ0 : 0 < sNn W (dH D) ∧ sNn W (dH D) < 2 ^ 31 := by
    have hs : ∀ n, sNn W n ≤ 9 * n := fun n => by
      induction n with
      | zero => exact Nat.le_refl _
      | succ n ih => show sNn W n + W n ≤ 9 * (n + 1); have := (hW n).2; omega
    have s9 := hs (dH D)
    rw [hT, nI_toInt (by omega)] at tb
    omega
  have s0 := a.1.1.1
  refine uX10_drawHour (fun A hA => vX10_drawHour_0 hA ⟨s0, s0, eX10_draw ⟨s0, s0, ?_⟩⟩)
  intro u1
  refine ⟨s0, ?_⟩
  intro z2
  obtain ⟨n, hn, en⟩ := ush16 (ax_i u1 m 39)
  have ez : z2 = nI n := en
  have r1 : mr (fun j => j = 39) (fun _ => False) m h u1 := mr_f rfl
  have e1 := mo_we (mr_st r1 a.1.1)
  rw [b.2.1, hT, ez, pk_rem (by omega) τ0.1 τ0.2]
  refine ⟨nI_ne0 τ0.1 τ0.2, _, rfl, ?_⟩
  have key : ∀ k i e : Nat, i + k = dH D → e < 2 ^ 31 → e + sNn W i < sNn W (dH D) → A (11, [some (.ref m), some (.int (nI e)), some (.int (nI i))], [], u1, 0, 0) := by
    intro k
    induction k with
    | zero =>
      intro i e hi he hs
      rw [show i = dH D by omega] at hs; omega
    | succ k ih =>
      intro i e hi he hs
      have ew : ax_i u1 (m + 16) (nI i).toNatClampNeg = nI (W i) := by rw [nI_clamp (by omega), mr_e r1 (by omega) (by exact id), b.1 i (by omega), (hW i).1]
      have w9 := (hW i).2
      refine vX10_drawHour_11 hA ⟨s0, _, e1.1, by rw [e1.2], by rw [e1.2]; exact vp_in_nI (by omega) (by decide), fun q => hq i _ (by omega), fun q => ⟨s0, _, e1.1, by rw [e1.2], by rw [e1.2]; exact vp_in_nI (by omega) (by decide), ?_⟩⟩
      rw [ew, nI_ltI he (by omega)] at q
      rw [ew, ← nI_succ, show nI e - nI (W i) = nI (e - W i) from by rw [show nI e = nI (e - W i) + nI (W i) from by rw [nI_add, Nat.sub_add_cancel (by omega)], Int32.add_sub_cancel]]
      exact ih (i + 1) (e - W i) (by omega) (by omega) (by show e - W i + (sNn W i + W i) < _; omega)
  exact key (dH D) 0 (n % sNn W (dH D)) (by omega) (by have := Nat.mod_lt n τ0.1; omega) (by show _ + 0 < _; have := Nat.mod_lt n τ0.1; omega)
theorem mo_dr {h : ax_H} {m : Nat} (a : mo_st h m) : ax_r h m 40 = some (m + 17) ∧ ax_s h (m + 17) = (11, 12) := a.2 16 _ rfl
theorem t10_drawn {x1 x2 x3 x4 : Int32} (a : tc h z DD N C) (hq : ∀ (v : Int32) h', ax_same md_F h h' → Ret (some (.int v)) h') : mX10_drawn g [.ref 77, .int x1, .int x2, .int x3, .int x4] h Ret := by
  obtain ⟨a1, T1, hs1⟩ := q_code (v := 0) a.2.1 a.2.2.2.1
  refine uX10_drawn (fun A hA => vX10_drawn_0 hA ⟨a.2.1.1, ?_⟩)
  intro h1
  refine c_min ⟨_, rfl, fun _ => hq _ _ hs1, fun q60 => ⟨a1.1, q_hand a1 T1 a.2.2.2.2 (fun q => ⟨_, rfl, fun _ => hq _ _ hs1, fun q => absurd rfl q⟩) (fun k hk ex ok h' hs hm => ⟨_, rfl, fun q => absurd q (by decide), fun _ => ⟨hm.1.1.1.1, ?_⟩⟩)⟩⟩
  obtain ⟨m, _, hm60, rfl⟩ := i_rng (a := 0) (b := 60) (by omega) (by omega) (of_decide_eq_true (b2i_n0.mp q60)).1 (of_decide_eq_true (b2i_n0.mp q60)).2
  have L := lvm_hm (sm_tr hs1 hs) hm
  have H12 := ok.1.2
  have P6 := ok.2.1
  have Lu : lvm h (ax_pi h' 77 39 x2) k (DD k) := lvm_mr L (mr_f (J := fun j => j = 39) (F := fun _ => False) rfl) (fun j hj => by omega) (fun a ha => ha.elim)
  have s0 := hm.1.1.1.1
  have go : ((∃ p, p < dP (DD k) ∧ x4 = nI p) ∨ (10 ≤ x4 ∧ x4 ≤ 11) ∨ ∃ i, i < dH (DD k) ∧ x4 = nI (20 + i)) → A (76, [some (.ref 77), some (.int x1), some (.int x2), some (.int (nI m)), some (.int x4), some (.int (-1)), some (.int 0)], [], ax_pi h' 77 39 x2, 0, 0) := by
    intro hx
    have k2 : ∀ n i : Nat, i + n = m → ∀ h3, lvm h h3 k (DD k) → ∀ x5 : Int32, A (100, [some (.ref 77), some (.int x1), some (.int x2), some (.int (nI m)), some (.int x4), some (.int x5), some (.int (nI i))], [], h3, 0, 0) := by
      intro n
      induction n with
      | zero =>
        intro i hi h3 L3 x5
        obtain ⟨pu, mc, mw⟩ := L3.2
        have t0 := mc.1.1.1
        have fin : ∀ v : Int32, Ret (some (.int v)) h3 := fun v => hq v h3 L3.1
        obtain ⟨e1, e2⟩ := mo_pu mc.1.1
        obtain ⟨f1, f2⟩ := mo_dr mc.1.1
        refine vX10_drawn_100 hA ⟨fun _ => ⟨fun n10 => ⟨fun n11 => ⟨fun q => ⟨t0, _, f1, by rw [f2], ?_, fin _⟩, fun q => ⟨t0, _, e1, by rw [e2], ?_, fin _⟩⟩, fun _ => fin _⟩, fun _ => ⟨t0, fin _⟩⟩, fun q => absurd (nI_le (by omega) (by omega)) q⟩
        · rw [f2]
          rcases hx with ⟨p, hp, rfl⟩ | y | ⟨i, hi, rfl⟩
          · exact absurd q (nI_ge (a := p) (b := 10) (by omega) (by decide))
          · obtain ⟨j, j1, j2, rfl⟩ := i_rng (a := 10) (b := 11) (by decide) (by decide) y.1 y.2
            rcases (by omega : j = 10 ∨ j = 11) with rfl | rfl
            · exact absurd rfl n10
            · exact absurd rfl n11
          · rw [show nI (20 + i) - 20 = nI i from ni_sb]; exact vp_in_nI (by omega) (by decide)
        · rw [e2]
          rcases hx with ⟨p, hp, rfl⟩ | y | ⟨i, hi, rfl⟩
          · exact vp_in_nI (by omega) (by decide)
          · exact absurd y.1 q
          · exact absurd (nI_le (a := 10) (b := 20 + i) (by omega) (by omega)) q
      | succ n ih =>
        intro i hi h3 L3 x5
        obtain ⟨pu, mc, mw⟩ := L3.2
        have t0 := mc.1.1.1
        obtain ⟨f1, f2⟩ := mo_dr mc.1.1
        refine vX10_drawn_100 hA ⟨fun q => absurd q (nI_ge (by omega) (by omega)), fun _ => ⟨t0, c_mdrawHour ok mc mw (fun y v hy => ⟨_, rfl, t0, _, f1, ⟨rfl, rfl⟩, by show (ax_s h3 (77 + 17)).1 = 11; rw [f2], by show vp_in (nI y) (ax_s h3 (77 + 17)).2; rw [f2]; exact vp_in_nI (by omega) (by decide), by show (ax_s h3 (77 + 17)).1 = 11; rw [f2], by show vp_in (nI y) (ax_s h3 (77 + 17)).2; rw [f2]; exact vp_in_nI (by omega) (by decide), ?_⟩)⟩⟩
        intro u5
        have L5 : lvm h u5 k (DD k) := lvm_mr L3 (mr_tr (mr_f (J := fun j => j = 39) (F := fun a => a = 94) rfl) (mr_c rfl (by decide))) (fun j hj => by omega) (fun a ha => by omega)
        refine ⟨t0, lv_mlive L5 hy (fun h6 L6 r6 => ⟨rfl, ?_⟩)⟩
        rw [← nI_succ]; exact ih (i + 1) (by omega) h6 L6 _
    have k1 : ∀ n i : Nat, i + n = 12 → ∀ h3, lvm h h3 k (DD k) → A (76, [some (.ref 77), some (.int x1), some (.int x2), some (.int (nI m)), some (.int x4), some (.int (-1)), some (.int (nI i))], [], h3, 0, 0) := by
      intro n
      induction n with
      | zero =>
        intro i hi h3 L3
        exact vX10_drawn_76 hA ⟨fun _ => k2 m 0 (by omega) h3 L3 _, fun q => absurd (nI_le (a := 12) (b := i) (by omega) (by omega)) q⟩
      | succ n ih =>
        intro i hi h3 L3
        obtain ⟨pu, mc, mw⟩ := L3.2
        obtain ⟨f1, f2⟩ := mo_dr mc.1.1
        refine vX10_drawn_76 hA ⟨fun q => absurd q (nI_ge (a := i) (b := 12) (by omega) (by decide)), fun _ => ⟨mc.1.1.1, _, f1, by rw [f2], by rw [f2]; exact vp_in_nI (by omega) (by decide), ?_⟩⟩
        intro u5
        rw [← nI_succ]
        exact ih (i + 1) (by omega) u5 (lvm_mr L3 (mr_c (J := fun _ => False) (F := fun a => a = 94) rfl (by decide)) (fun j hj => hj.elim) (fun a ha => by omega))
    exact k1 12 0 (by decide) _ Lu
  refine c_misOne hm.1.1 ⟨_, rfl, fun q => ⟨s0, go (Or.inl ?_)⟩, fun _ => c_min ⟨_, rfl, fun q => ⟨s0, go (Or.inr (Or.inl (of_decide_eq_true (b2i_n0.mp q))))⟩, fun _ => ⟨s0, ?_⟩⟩⟩
  · exact sp_in_ix (by omega) (b2i_n0.mp q)
  · rw [hm.1.1.2.2.2.2.1, show (19 : Int32) + nI (dH (DD k)) = nI (19 + dH (DD k)) from ni_c 19 _]
    refine c_min ⟨_, rfl, fun q => ⟨s0, go (Or.inr (Or.inr ?_))⟩, fun _ => hq _ _ L.1⟩
    obtain ⟨n, n1, n2, rfl⟩ := i_rng (a := 20) (b := 19 + dH (DD k)) (by omega) (by have := ok.1.1; omega) (of_decide_eq_true (b2i_n0.mp q)).1 (of_decide_eq_true (b2i_n0.mp q)).2
    obtain ⟨i, rfl⟩ := Nat.exists_eq_add_of_le n1
    exact ⟨i, by omega, rfl⟩
theorem n_drawn (a : IV h S Im tp) (b : 103 ≤ h.1 ∧ h.1 ≤ B) (x1 x2 x3 x4 : Int32) : prN (mX9_drawn g) (mX10_drawn g) [.ref 0, .int x1, .int x2, .int x3, .int x4] [.ref 77, .int x1, .int x2, .int x3, .int x4] h (inv B) := pr_n a b (fun Ret k => t9_drawn (iv_tc a) k) (fun h1 Ret a1 k => t10_drawn (iv_tc a1) k)
end
