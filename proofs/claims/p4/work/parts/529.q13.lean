section
variable {g : ax_G} {Ret : Option Value → ax_H → Prop} {h : ax_H} {z : Nat → Nat} {DD : Nat → rD} {N : Nat → Nat → Nat} {C : Nat → Nat → Nat → Nat → Int32} {S : sT} {Im : Nat → Option sT} {tp : Nat → Nat} {B : Nat}
/-! REIGN, of the reference -/
theorem mo_rh {h : ax_H} {m : Nat} (a : mo_st h m) : ax_r h m 54 = some (m + 23) ∧ ax_s h (m + 23) = (11, 60) := a.2 22 _ rfl
theorem mo_rt {h : ax_H} {m : Nat} (a : mo_st h m) : ax_r h m 55 = some (m + 24) ∧ ax_s h (m + 24) = (11, 6) := a.2 23 _ rfl
theorem po_ix {P : Nat} {pu : Nat → Int32} : sp_po P pu = -1 ∨ ∃ p, p < P ∧ sp_po P pu = nI p := by
  unfold sp_po
  by_cases e : P = 0
  · rw [if_pos e]; exact Or.inl rfl
  · rw [if_neg e]; exact Or.inr ⟨_, by have := poo_le pu (P - 1); omega, rfl⟩
theorem t_reignDays {hh : ax_H} {k m : Nat} (ok : rd_ok (DD k)) (hm : m ≤ 60) (L : lvm h hh k (DD k)) (h1 : ∀ (v : Int32) h2, lvm h h2 k (DD k) → Ret (some (.int v)) h2) : mX10_reignDays g [.ref 77, .int (nI m)] hh Ret := by
  have H12 := ok.1.2
  have P6 := ok.2.1
  refine uX10_reignDays (fun A hA => vX10_reignDays_0 hA ?_)
  have k2 : ∀ n i : Nat, i + n = m → ∀ h3, lvm h h3 k (DD k) → ∀ (x2 : Int32) (o4 : Option Value), A (25, [some (.ref 77), some (.int (nI m)), some (.int x2), some (.int (nI i)), o4], [], h3, 0, 0) := by
    intro n
    induction n with
    | zero =>
      intro i hi h3 L3 x2 o4
      exact vX10_reignDays_25 hA ⟨fun _ => h1 _ _ L3, fun q => absurd (nI_le (by omega) (by omega)) q⟩
    | succ n ih =>
      intro i hi h3 L3 x2 o4
      obtain ⟨pu, mc, mw⟩ := L3.2
      have t0 := mc.1.1.1
      obtain ⟨e1, e2⟩ := mo_rh mc.1.1
      obtain ⟨f1, f2⟩ := mo_rt mc.1.1
      have K : ∀ h6, lvm h h6 k (DD k) → ∀ (x2 : Int32) (o4 : Option Value), A (25, [some (.ref 77), some (.int (nI m)), some (.int x2), some (.int (nI i + 1)), o4], [], h6, 0, 0) := fun h6 L6 x2 o4 => by rw [← nI_succ]; exact ih (i + 1) (by omega) h6 L6 _ _
      have st : ∀ (y : Nat) (u : ax_H), mr (fun _ => False) (fun a => a = 100 ∨ a = 101) 77 h3 u → lvm h u k (DD k) := fun y u r => lvm_mr L3 r (fun j hj => hj.elim) (fun a ha => by omega)
      have v60 : vp_in (nI i) (ax_s h3 (77 + 23)).2 := by rw [e2]; exact vp_in_nI (by omega) (by decide)
      have s60 : (ax_s h3 (77 + 23)).1 = 11 := by rw [e2]
      refine vX10_reignDays_25 hA ⟨fun q => absurd q (nI_ge (by omega) (by omega)), fun _ => ⟨t0, t0, _, e1, fun q => ?_, fun q => ⟨s60, v60, ?_⟩⟩⟩
      · rw [mw.2.2] at q
        rcases po_ix (P := dP (DD k)) (pu := pu) with e | ⟨p, hp, e⟩
        · exact absurd e q
        · rw [mw.2.2, e]
          refine ⟨t0, c_mwishOf (by have := ok.1.1; omega) mc hp ⟨_, rfl, s60, v60, ?_⟩⟩
          have bh : bst (fun q => sp_br (dP (DD k)) (dH (DD k)) (sp_vl (DD k)) (nI p) (nI q)) (dH (DD k) - 1) < dH (DD k) := by have := bst_le (fun q => sp_br (dP (DD k)) (dH (DD k)) (sp_vl (DD k)) (nI p) (nI q)) (dH (DD k) - 1); have := ok.1.1; omega
          intro u7
          have v6 : vp_in (nI p) (ax_s h3 (77 + 24)).2 := by rw [f2]; exact vp_in_nI (by omega) (by decide)
          have s6 : (ax_s h3 (77 + 24)).1 = 11 := by rw [f2]
          refine ⟨fun q9 => absurd q9 (nI_nm1 (by omega)), fun _ => ⟨t0, _, f1, ⟨rfl, rfl⟩, s6, v6, s6, v6, ?_⟩⟩
          intro u12
          have L12 : lvm h u12 k (DD k) := st 0 u12 (mr_tr (mr_c (Or.inl rfl) (by decide)) (mr_c (Or.inr rfl) (by decide)))
          refine ⟨t0, _, e1, s60, v60, t0, ?_⟩
          have ev : ax_i u12 (77 + 23) (nI i).toNatClampNeg = nI (bst (fun q => sp_br (dP (DD k)) (dH (DD k)) (sp_vl (DD k)) (nI p) (nI q)) (dH (DD k) - 1)) := by
            show ax_i (ax_pi (ax_pi h3 100 _ _) 101 _ _) 100 _ = _
            rw [ai_pi, if_neg (by omega), ai_pi, if_pos ⟨rfl, rfl⟩]; rfl
          rw [ev]
          refine lv_mlive L12 bh (fun h6 L6 r6 => ⟨rfl, fun _ => K h6 L6 _ _, fun _ => ?_⟩)
          obtain ⟨pu6, mc6, mw6⟩ := L6.2
          exact ⟨mc6.1.1.1, fun _ => K h6 L6 _ _, fun _ => K h6 L6 _ _⟩
      · intro u16
        have L16 : lvm h u16 k (DD k) := st 0 u16 (mr_c (Or.inl rfl) (by decide))
        refine ⟨fun _ => ⟨t0, _, e1, s60, v60, t0, ?_⟩, fun q2 => absurd q q2⟩
        have ev : ax_i u16 (77 + 23) (nI i).toNatClampNeg = nI 0 := by
          show ax_i (ax_pi h3 100 _ _) 100 _ = _
          rw [ai_pi, if_pos ⟨rfl, rfl⟩]; rfl
        rw [ev]
        refine lv_mlive L16 (by have := ok.1.1; omega) (fun h6 L6 r6 => ⟨rfl, fun _ => K h6 L6 _ _, fun _ => ?_⟩)
        obtain ⟨pu6, mc6, mw6⟩ := L6.2
        exact ⟨mc6.1.1.1, fun _ => K h6 L6 _ _, fun _ => K h6 L6 _ _⟩
  have k1 : ∀ n i : Nat, i + n = 6 → ∀ h3, lvm h h3 k (DD k) → ∀ o4 : Option Value, A (4, [some (.ref 77), some (.int (nI m)), some (.int (-1)), some (.int (nI i)), o4], [], h3, 0, 0) := by
    intro n
    induction n with
    | zero =>
      intro i hi h3 L3 o4
      exact vX10_reignDays_4 hA ⟨fun _ => k2 m 0 (by omega) h3 L3 _ _, fun q => absurd (nI_le (a := 6) (b := i) (by omega) (by omega)) q⟩
    | succ n ih =>
      intro i hi h3 L3 o4
      obtain ⟨pu, mc, mw⟩ := L3.2
      obtain ⟨f1, f2⟩ := mo_rt mc.1.1
      refine vX10_reignDays_4 hA ⟨fun q => absurd q (nI_ge (a := i) (b := 6) (by omega) (by decide)), fun _ => ⟨mc.1.1.1, _, f1, by rw [f2], by rw [f2]; exact vp_in_nI (by omega) (by decide), ?_⟩⟩
      intro u5
      rw [← nI_succ]
      exact ih (i + 1) (by omega) u5 (lvm_mr L3 (mr_c (J := fun _ => False) (F := fun a => a = 101) rfl (by decide)) (fun j hj => hj.elim) (fun a ha => by omega)) _
  exact k1 6 0 (by decide) hh L _
theorem t10_reign {x1 x2 x3 : Int32} (a : tc h z DD N C) (hq : ∀ (v : Int32) h', ax_same md_F h h' → Ret (some (.int v)) h') : mX10_reign g [.ref 77, .int x1, .int x2, .int x3] h Ret := by
  obtain ⟨a1, T1, hs1⟩ := q_code (v := 0) a.2.1 a.2.2.2.1
  refine eX10_reign ⟨a.2.1.1, ?_⟩
  intro h1
  refine c_min ⟨_, rfl, fun _ => hq _ _ hs1, fun q60 => ⟨a1.1, q_hand a1 T1 a.2.2.2.2 (fun q => ⟨_, rfl, fun q => absurd rfl q, fun _ => hq _ _ hs1⟩) (fun k hk ex ok h' hs hm => ⟨_, rfl, fun _ => ⟨hm.1.1.1.1, ?_⟩, fun q => absurd q (by decide)⟩)⟩⟩
  obtain ⟨m, _, hm60, rfl⟩ := i_rng (a := 0) (b := 60) (by omega) (by omega) (of_decide_eq_true (b2i_n0.mp q60)).1 (of_decide_eq_true (b2i_n0.mp q60)).2
  have P6 := ok.2.1
  refine t_reignDays ok hm60 (lvm_hm (sm_tr hs1 hs) hm) (fun v h2 L2 => ⟨_, rfl, ?_⟩)
  obtain ⟨pu, mc, mw⟩ := L2.2
  have t0 := mc.1.1.1
  have fin : ∀ v : Int32, Ret (some (.int v)) h2 := fun v => hq v h2 L2.1
  obtain ⟨e1, e2⟩ := mo_rh mc.1.1
  obtain ⟨f1, f2⟩ := mo_rt mc.1.1
  obtain ⟨g1, g2⟩ := mo_pu mc.1.1
  rw [show (99 : Int32) + nI m = nI (99 + m) from ni_c 99 _]
  refine c_min ⟨_, rfl, fun _ => ⟨t0, ?_⟩, fun q => ⟨t0, _, e1, by rw [e2], ?_, fin _⟩⟩
  · rw [mc.1.2.2.2.2.2.1, show (19 : Int32) + nI (dP (DD k)) = nI (19 + dP (DD k)) from ni_c 19 _]
    refine c_min ⟨_, rfl, fun _ => ⟨t0, c_misOne mc.1 ⟨_, rfl, fun _ => ⟨fun _ => ⟨fun _ => fin _, fun _ => fin _⟩, fun _ => ⟨t0, fin _⟩⟩, fun q => ⟨t0, _, g1, by rw [g2], ?_, fin _⟩⟩⟩, fun q => ⟨t0, _, f1, by rw [f2], ?_, fin _⟩⟩
    · obtain ⟨p, hp, rfl⟩ := sp_in_ix (by omega) (b2i_n0.mp q)
      rw [g2]; exact vp_in_nI (by omega) (by decide)
    · have y := of_decide_eq_true (b2i_n0.mp q)
      rw [f2]
      rcases Nat.eq_zero_or_pos (dP (DD k)) with e | e
      · rw [e] at y
        have y1 := i_le.mp y.1
        have y2 := i_le.mp y.2
        rw [nI_toInt (by omega)] at y2
        change (20 : Int) ≤ _ at y1
        omega
      · obtain ⟨n, n1, n2, rfl⟩ := i_rng (a := 20) (b := 19 + dP (DD k)) (by omega) (by omega) y.1 y.2
        obtain ⟨i, rfl⟩ := Nat.exists_eq_add_of_le n1
        rw [show nI (20 + i) - 20 = nI i from ni_sb]; exact vp_in_nI (by omega) (by decide)
  · have y := of_decide_eq_true (b2i_n0.mp q)
    rw [e2]
    rcases Nat.eq_zero_or_pos m with e | e
    · rw [e] at y
      have y1 := i_le.mp y.1
      have y2 := i_le.mp y.2
      rw [nI_toInt (by omega)] at y2
      change (100 : Int) ≤ _ at y1
      omega
    · obtain ⟨n, n1, n2, rfl⟩ := i_rng (a := 100) (b := 99 + m) (by omega) (by omega) y.1 y.2
      obtain ⟨i, rfl⟩ := Nat.exists_eq_add_of_le n1
      rw [show nI (100 + i) - 100 = nI i from ni_sb]; exact vp_in_nI (by omega) (by decide)
theorem n_reign (a : IV h S Im tp) (b : 103 ≤ h.1 ∧ h.1 ≤ B) (x1 x2 x3 : Int32) : prN (mX9_reign g) (mX10_reign g) [.ref 0, .int x1, .int x2, .int x3] [.ref 77, .int x1, .int x2, .int x3] h (inv B) := pr_n a b (fun Ret k => t9_reign (iv_tc a) k) (fun h1 Ret a1 k => t10_reign (iv_tc a1) k)
end
