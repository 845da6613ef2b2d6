section
variable {g : ax_G} {Ret : Option Value → ax_H → Prop} {h : ax_H} {z : Nat → Nat} {DD : Nat → rD} {N : Nat → Nat → Nat} {C : Nat → Nat → Nat → Nat → Int32} {S : sT} {Im : Nat → Option sT} {tp : Nat → Nat} {B : Nat}
section
variable {hh : ax_H} {k : Nat}
theorem hB_of {h3 : ax_H} {D : rD} {mo pu pv : Nat → Int32} {vl : Nat → Nat → Int32} {b : Int} (a : mc_at h3 77 k D mo pu vl) (c : mc_at h3 77 k D mo pv vl) (hb : hB b (dP D) pu) : hB b (dP D) pv := fun p hp => by rw [← c.2.1 p hp, a.2.1 p hp]; exact hb p hp
theorem hB_vl {D : rD} {pu : Nat → Int32} {b : Int} {q : Nat} (ok : rd_ok D) (hb : b ≤ 100000) (a : hB b (dP D) pu) : hB (b + 1287) (dP D) (fun p => pu p + sp_vl D p q) := fun p hp => by
  have h1 := a p hp
  have h2 := vl_bd ok p q
  show -(b + 1287) ≤ (pu p + sp_vl D p q).toInt ∧ (pu p + sp_vl D p q).toInt ≤ b + 1287
  rw [i32_add (by omega) (by omega)]; omega
theorem sN_9 {W : Nat → Nat} (hW : ∀ q, W q ≤ 9) : ∀ n, sNn W n ≤ 9 * n
  | 0 => Nat.le_refl _
  | n + 1 => by show sNn W n + W n ≤ 9 * (n + 1); have := hW n; have := sN_9 hW n; omega
theorem c_expect {n p : Nat} {b : Int32} (ok : rd_ok (DD k)) (L : lvm h hh k (DD k)) (hn : n ≤ 2) (hp : p < dP (DD k)) (hq : ∀ h2, lvm h h2 k (DD k) → Ret none h2) : mX10_expect g [.ref 77, .int (nI p), .int (nI n), .int b] hh Ret := by
  have H12 := ok.1.2
  have H2 := ok.1.1
  have P6 := ok.2.1
  have tb0 := sp_t_bd ok (rul (DD k))
  obtain ⟨W, hW, hT⟩ := w_sum ok (rul (DD k))
  have s12 := sN_9 (fun q => (hW q).2) (dH (DD k))
  have T0 : (sp_t (DD k) (rul (DD k))).toInt = (sNn W (dH (DD k)) : Int) := by rw [hT, nI_toInt (by omega)]
  have hb0 : hB 999 (dP (DD k)) (dpu (DD k)) := fun p hp => by have := ok.2.2.2.2.1 p hp; omega
  obtain ⟨pu0, mc0, -⟩ := L.2
  have s00 := mc0.1.1.1
  refine uX10_expect (fun A hA => vX10_expect_0 hA ⟨s00, ?_⟩)
  intro u1
  refine ⟨s00, ?_⟩
  intro u2
  have Lu : lvm h u2 k (DD k) := lvm_mr L (mr_tr (mr_l (J := fun j => j = 56 ∨ j = 57) (F := fun _ => False) (Or.inl rfl)) (mr_l (Or.inr rfl))) (fun j hj => by omega) (fun a ha => ha.elim)
  have e26 : ax_i u2 77 26 = nI (dH (DD k)) := mc0.1.2.2.2.2.1
  have f0 : ∀ c, c = (0 : Int) → fOk (ax_l u2 77 56) (ax_l u2 77 57) (sL (DD k)) (sp_t (DD k) (rul (DD k))).toInt c := fun c hc => by
    have e0 : ax_l u2 77 56 = 0 := by show ax_l (ax_pl (ax_pl hh 77 56 0) 77 57 1) 77 56 = 0; rw [al_pl, if_neg (by decide), al_pl, if_pos ⟨rfl, rfl⟩]
    have e1 : ax_l u2 77 57 = 1 := by show ax_l (ax_pl (ax_pl hh 77 56 0) 77 57 1) 77 57 = 1; rw [al_pl, if_pos ⟨rfl, rfl⟩]
    rw [e0, e1, hc]
    refine ⟨by decide, ⟨sL (DD k), by rw [show (1 : Int64).toInt = 1 from rfl, Int.one_mul]⟩, ?_⟩
    show (0 : Int) * _ ≤ (0 : Int) * _
    rw [Int.zero_mul, Int.zero_mul]; exact Int.le_refl _
  have one : (1 : Int64).toInt = 1 := rfl
  -- a start of a row
  have go : ∀ (tot i : Nat) (c d : Int), 0 ≤ c → 0 ≤ d → c + d ≤ 42876 * (sp_t (DD k) (rul (DD k))).toInt → i < 1000 → (n = 0 → d = 3573 * (sp_t (DD k) (rul (DD k))).toInt) → (1 ≤ n → d = 3573 * (W (i % dH (DD k)) : Int)) → ∀ h3, lvm h h3 k (DD k) → fOk (ax_l h3 77 56) (ax_l h3 77 57) (sL (DD k)) (sp_t (DD k) (rul (DD k))).toInt c → (∀ h2, lvm h h2 k (DD k) → fOk (ax_l h2 77 56) (ax_l h2 77 57) (sL (DD k)) (sp_t (DD k) (rul (DD k))).toInt (c + d) → ∀ o6 o7 o8 o9 o10 o11 o12 : Option Value, A (44, [some (.ref 77), some (.int (nI p)), some (.int (nI n)), some (.int b), some (.int (nI tot)), some (.int (nI i + 1)), o6, o7, o8, o9, o10, o11, o12], [], h2, 0, 0)) → ∀ o12 : Option Value, mX10_begin g [.ref 77] h3 (fun v4 h3 => v4 = none ∧ A (68, [some (.ref 77), some (.int (nI p)), some (.int (nI n)), some (.int b), some (.int (nI tot)), some (.int (nI i)), some (.long (1 : Int64)), none, some (.long (1 : Int64)), none, some (.int (nI i)), some (.int 0), o12], [], h3, 0, 0)) := by
    intro tot i c d c0 d0 cd hi dn0 dn1 h3 L3 F3 K o12
    refine c_mbegin ok L3 (fun h4 r4 s4 hm => ⟨rfl, ?_⟩)
    have L4 := lvm_hm s4 hm
    have F4 : fOk (ax_l h4 77 56) (ax_l h4 77 57) (sL (DD k)) (sp_t (DD k) (rul (DD k))).toInt c := by rw [(r4.2 56 (by decide)).2, (r4.2 57 (by decide)).2]; exact F3
    rcases (by omega : n = 0 ∨ n = 1 ∨ n = 2) with rfl | rfl | rfl
    · refine fin68 hA ok L4 hm.1 (fun p hp => by have := hb0 p hp; omega) hp (by decide) F4 c0 d0 cd (by rw [one]; decide) (by decide) ⟨sL (DD k), by rw [one, Int.one_mul]⟩ (by rw [one, dn0 rfl]; omega) _ K
    · refine day68 (n := 1) (j := 0) hA ok L4 hi (by decide) (by decide) _ (fun h5 pu x m5 ex w5 L5 m6 w6 r5 => ?_)
      have exr : x = rul (DD k) := by rw [← w5.2.2]; exact hm.2.2.2
      have hbu := hB_vl (q := i % dH (DD k)) ok (by decide) (hB_of hm.1 m5 hb0)
      have F5 : fOk (ax_l h5 77 56) (ax_l h5 77 57) (sL (DD k)) (sp_t (DD k) (rul (DD k))).toInt c := by rw [(r5.2 56 (by decide)).2, (r5.2 57 (by decide)).2]; exact F4
      have w9 := (hW (i % dH (DD k))).2
      have eX : (1 * (sp_w (DD k) x (i % dH (DD k))).toInt64).toInt = (W (i % dH (DD k)) : Int) := by rw [Int64.one_mul, i_64, exr, (hW _).1, nI_toInt (by omega)]
      have eY : (1 * (sp_t (DD k) x).toInt64).toInt = (sp_t (DD k) (rul (DD k))).toInt := by rw [Int64.one_mul, i_64, exr]
      refine fin68 hA ok L5 m6 (fun p hp => by have := hbu p hp; omega) hp (by decide) F5 c0 d0 cd (by rw [eX]; omega) (by rw [eY]; exact tb0.1) (by rw [eY]; exact Int.dvd_mul_right _ _) ?_ _ K
      rw [eX, eY, dn1 (by decide), Int.mul_comm (W (i % dH (DD k)) : Int) 3573]
      exact Int.le_refl _
    · refine day68 (n := 2) (j := 0) hA ok L4 hi (by decide) (by decide) _ (fun h5 pu x m5 ex w5 L5 m6 w6 r5 => ?_)
      have exr : x = rul (DD k) := by rw [← w5.2.2]; exact hm.2.2.2
      have hbu := hB_vl (q := i % dH (DD k)) ok (by decide) (hB_of hm.1 m5 hb0)
      have F5 : fOk (ax_l h5 77 56) (ax_l h5 77 57) (sL (DD k)) (sp_t (DD k) (rul (DD k))).toInt c := by rw [(r5.2 56 (by decide)).2, (r5.2 57 (by decide)).2]; exact F4
      refine day68 (n := 2) (j := 1) hA ok L5 (Nat.lt_of_le_of_lt (Nat.div_le_self _ _) hi) (by decide) (by decide) _ (fun h7 pv y m7 ey w7 L7 m8 w8 r7 => ?_)
      have hbv := hB_vl (q := i / dH (DD k) % dH (DD k)) ok (by decide) (hB_of m6 m7 hbu)
      have F7 : fOk (ax_l h7 77 56) (ax_l h7 77 57) (sL (DD k)) (sp_t (DD k) (rul (DD k))).toInt c := by rw [(r7.2 56 (by decide)).2, (r7.2 57 (by decide)).2]; exact F5
      obtain ⟨pp, hpp, epp⟩ := (po_ix (P := dP (DD k)) (pu := pv)).resolve_left (fun e => by unfold sp_po at e; rw [if_neg (by omega)] at e; exact nI_nm1 (by have := poo_le pv (dP (DD k) - 1); omega) e)
      rw [epp] at ey
      subst ey
      obtain ⟨W2, hW2, hT2⟩ := w_sum ok (nI pp)
      have s22 := sN_9 (fun q => (hW2 q).2) (dH (DD k))
      have tb2 := sp_t_bd ok (nI pp)
      have T2 : (sp_t (DD k) (nI pp)).toInt = (sNn W2 (dH (DD k)) : Int) := by rw [hT2, nI_toInt (by omega)]
      have w9 := (hW (i % dH (DD k))).2
      have v9 := (hW2 (i / dH (DD k) % dH (DD k))).2
      have vT : W2 (i / dH (DD k) % dH (DD k)) ≤ sNn W2 (dH (DD k)) := by
        have h1 : sNn W2 (i / dH (DD k) % dH (DD k) + 1) ≤ sNn W2 (dH (DD k)) := sNn_mono (Nat.mod_lt _ (by omega))
        have h2 : sNn W2 (i / dH (DD k) % dH (DD k) + 1) = sNn W2 (i / dH (DD k) % dH (DD k)) + W2 (i / dH (DD k) % dH (DD k)) := rfl
        omega
      have eA : (sp_w (DD k) x (i % dH (DD k))).toInt64.toInt = (W (i % dH (DD k)) : Int) := by rw [i_64, exr, (hW _).1, nI_toInt (by omega)]
      have eB : (sp_w (DD k) (nI pp) (i / dH (DD k) % dH (DD k))).toInt64.toInt = (W2 (i / dH (DD k) % dH (DD k)) : Int) := by rw [i_64, (hW2 _).1, nI_toInt (by omega)]
      have eC : (sp_t (DD k) x).toInt64.toInt = (sp_t (DD k) (rul (DD k))).toInt := by rw [i_64, exr]
      have ab := abs_mul (a := 9) (b := 9) (x := (W (i % dH (DD k)) : Int)) (y := (W2 (i / dH (DD k) % dH (DD k)) : Int)) (by decide) (by decide) (by omega) (by omega)
      have nn : (0 : Int) ≤ (W (i % dH (DD k)) : Int) * (W2 (i / dH (DD k) % dH (DD k)) : Int) := Int.mul_nonneg (by omega) (by omega)
      have tt := abs_mul (a := 108) (b := 108) (x := (sp_t (DD k) (rul (DD k))).toInt) (y := (sp_t (DD k) (nI pp)).toInt) (by decide) (by decide) (by omega) (by omega)
      have eX : (1 * (sp_w (DD k) x (i % dH (DD k))).toInt64 * (sp_w (DD k) (nI pp) (i / dH (DD k) % dH (DD k))).toInt64).toInt = (W (i % dH (DD k)) : Int) * (W2 (i / dH (DD k) % dH (DD k)) : Int) := by rw [Int64.one_mul, i64_mul (by rw [eA, eB]; omega) (by rw [eA, eB]; omega), eA, eB]
      have eY : (1 * (sp_t (DD k) x).toInt64 * (sp_t (DD k) (nI pp)).toInt64).toInt = (sp_t (DD k) (rul (DD k))).toInt * (sp_t (DD k) (nI pp)).toInt := by rw [Int64.one_mul, i64_mul (by rw [eC, i_64]; omega) (by rw [eC, i_64]; omega), eC, i_64]
      refine fin68 hA ok L7 m8 hbv hp (by decide) F7 c0 d0 cd (by rw [eX]; omega) (by rw [eY]; exact Int.mul_pos tb0.1 tb2.1) (by rw [eY]; exact Int.mul_dvd_mul_left _ (pT_dvd hpp)) ?_ _ K
      rw [eX, eY, dn1 (by decide), T2]
      have g1 : (W (i % dH (DD k)) : Int) * (W2 (i / dH (DD k) % dH (DD k)) : Int) ≤ (W (i % dH (DD k)) : Int) * (sNn W2 (dH (DD k)) : Int) := Int.mul_le_mul_of_nonneg_left (by omega) (by omega)
      have g2 := Int.mul_le_mul_of_nonneg_right (Int.mul_le_mul_of_nonneg_right g1 (show (0 : Int) ≤ 3573 by decide)) (Int.le_of_lt tb0.1)
      refine Int.le_trans g2 (Int.le_of_eq ?_)
      ac_rfl
  have k44 : ∀ (tot : Nat) (cc dd : Nat → Int), tot ≤ 144 → (∀ i, i < tot → 0 ≤ cc i ∧ 0 ≤ dd i ∧ cc i + dd i ≤ 42876 * (sp_t (DD k) (rul (DD k))).toInt ∧ cc (i + 1) = cc i + dd i ∧ (n = 0 → dd i = 3573 * (sp_t (DD k) (rul (DD k))).toInt) ∧ (1 ≤ n → dd i = 3573 * (W (i % dH (DD k)) : Int))) → ∀ f i : Nat, i + f = tot → ∀ h3, lvm h h3 k (DD k) → fOk (ax_l h3 77 56) (ax_l h3 77 57) (sL (DD k)) (sp_t (DD k) (rul (DD k))).toInt (cc i) → ∀ o6 o7 o8 o9 o10 o11 o12 : Option Value, A (44, [some (.ref 77), some (.int (nI p)), some (.int (nI n)), some (.int b), some (.int (nI tot)), some (.int (nI i)), o6, o7, o8, o9, o10, o11, o12], [], h3, 0, 0) := by
    intro tot cc dd ht hcc f
    induction f with
    | zero =>
      intro i hi h3 L3 F3 o6 o7 o8 o9 o10 o11 o12
      exact vX10_expect_44 hA ⟨fun _ => hq h3 L3, fun q => absurd (nI_le (by omega) (by omega)) q⟩
    | succ f ih =>
      intro i hi h3 L3 F3 o6 o7 o8 o9 o10 o11 o12
      obtain ⟨pu3, mc3, -⟩ := L3.2
      obtain ⟨c1, c2, c3, c4, c5, c6⟩ := hcc i (by omega)
      refine vX10_expect_44 hA ⟨fun q => absurd q (nI_ge (by omega) (by omega)), fun _ => ⟨mc3.1.1.1, go tot i (cc i) (dd i) c1 c2 c3 (by omega) c5 c6 h3 L3 F3 (fun h2 L2 F2 p6 p7 p8 p9 p10 p11 p12 => ?_) _⟩⟩
      rw [← nI_succ]
      exact ih (i + 1) (by omega) h2 L2 (by rw [c4]; exact F2) _ _ _ _ _ _ _
  have HH : dH (DD k) * dH (DD k) ≤ 144 := Nat.mul_le_mul H12 H12
  have HS : dH (DD k) * sNn W (dH (DD k)) ≤ 12 * sNn W (dH (DD k)) := Nat.mul_le_mul_right _ H12
  have cp : 1 ≤ n → ∀ tot, tot ≤ dH (DD k) * dH (DD k) → ∀ i, i < tot → 0 ≤ 3573 * (oM W (dH (DD k)) i : Int) ∧ 0 ≤ 3573 * (W (i % dH (DD k)) : Int) ∧ 3573 * (oM W (dH (DD k)) i : Int) + 3573 * (W (i % dH (DD k)) : Int) ≤ 42876 * (sp_t (DD k) (rul (DD k))).toInt ∧ 3573 * (oM W (dH (DD k)) (i + 1) : Int) = 3573 * (oM W (dH (DD k)) i : Int) + 3573 * (W (i % dH (DD k)) : Int) ∧ (n = 0 → 3573 * (W (i % dH (DD k)) : Int) = 3573 * (sp_t (DD k) (rul (DD k))).toInt) ∧ (1 ≤ n → 3573 * (W (i % dH (DD k)) : Int) = 3573 * (W (i % dH (DD k)) : Int)) := fun n1 tot ht i hi => by
    have e := oM_succ (W := W) (H := dH (DD k)) (i := i) (by omega)
    have l := oM_le (W := W) (H := dH (DD k)) (i := i + 1) (by omega) (by omega)
    refine ⟨by omega, by omega, by rw [T0]; omega, by omega, fun q => by omega, fun _ => rfl⟩
  have o0 : 3573 * (oM W (dH (DD k)) 0 : Int) = 0 := by
    have : oM W (dH (DD k)) 0 = 0 := by unfold oM; rw [Nat.zero_div, Nat.zero_mod, Nat.zero_mul]; rfl
    rw [this]; rfl
  refine ⟨fun q0 => ⟨fun q1 => ⟨s00, s00, ?_⟩, fun q1 => ⟨s00, ?_⟩⟩, fun q0 => ?_⟩
  · have n1 : 1 ≤ n := by rcases Nat.eq_zero_or_pos n with e | e; rw [e] at q0; exact absurd nI_0 q0; exact e
    rw [e26, pk_mul]
    exact k44 (dH (DD k) * dH (DD k)) (fun i => 3573 * (oM W (dH (DD k)) i : Int)) (fun i => 3573 * (W (i % dH (DD k)) : Int)) HH (cp n1 _ (Nat.le_refl _)) (dH (DD k) * dH (DD k)) 0 (by omega) u2 Lu (f0 _ o0) _ _ _ _ _ _ _
  · have n1 : 1 ≤ n := by rcases Nat.eq_zero_or_pos n with e | e; rw [e] at q0; exact absurd nI_0 q0; exact e
    have hh1 : dH (DD k) ≤ dH (DD k) * dH (DD k) := Nat.le_mul_of_pos_left _ (by omega)
    rw [e26]
    exact k44 (dH (DD k)) (fun i => 3573 * (oM W (dH (DD k)) i : Int)) (fun i => 3573 * (W (i % dH (DD k)) : Int)) (by omega) (cp n1 _ hh1) (dH (DD k)) 0 (by omega) u2 Lu (f0 _ o0) _ _ _ _ _ _ _
  · have n0 : n = 0 := (nI_eq (by omega) (by decide)).mp (q0.trans nI_0.symm)
    refine k44 1 (fun i => 3573 * (sp_t (DD k) (rul (DD k))).toInt * (i : Int)) (fun _ => 3573 * (sp_t (DD k) (rul (DD k))).toInt) (by decide) (fun i hi => ?_) 1 0 (by decide) u2 Lu (f0 _ (by show 3573 * (sp_t (DD k) (rul (DD k))).toInt * ((0 : Nat) : Int) = 0; rw [Int.natCast_zero, Int.mul_zero])) _ _ _ _ _ _ _
    have ei : i = 0 := by omega
    subst ei
    refine ⟨by show 0 ≤ 3573 * (sp_t (DD k) (rul (DD k))).toInt * ((0 : Nat) : Int); rw [Int.natCast_zero, Int.mul_zero]; exact Int.le_refl _, by show 0 ≤ 3573 * (sp_t (DD k) (rul (DD k))).toInt; omega, ?_, ?_, fun _ => rfl, fun q => by omega⟩
    · show 3573 * (sp_t (DD k) (rul (DD k))).toInt * ((0 : Nat) : Int) + 3573 * (sp_t (DD k) (rul (DD k))).toInt ≤ _
      rw [Int.natCast_zero, Int.mul_zero]; omega
    · show 3573 * (sp_t (DD k) (rul (DD k))).toInt * ((1 : Nat) : Int) = 3573 * (sp_t (DD k) (rul (DD k))).toInt * ((0 : Nat) : Int) + 3573 * (sp_t (DD k) (rul (DD k))).toInt
      rw [Int.natCast_zero, Int.mul_zero, Int.natCast_one, Int.mul_one]; omega
end
end
