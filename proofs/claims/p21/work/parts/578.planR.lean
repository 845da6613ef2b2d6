section
variable {g : ax_G} {Ret : Option Value → ax_H → Prop} {h : ax_H} {z : Nat → Nat} {DD : Nat → rD} {N : Nat → Nat → Nat} {C : Nat → Nat → Nat → Nat → Int32} {S : sT} {Im : Nat → Option sT} {tp : Nat → Nat} {B : Nat}
theorem pl_lt {D : rD} {C1 : Nat → Nat → Int32} {n : Nat} {v : Int} (ok : rd_ok D) (e : plR D C1 n 0 = some v) : ∀ i, i < n → plG D C1 n i < dH D := fun i hi => gf_lt (H := dH D) ok.1.2 n 0 (Nat.le_refl _) v e i (by omega) hi
theorem pl_bd {D : rD} {C1 : Nat → Nat → Int32} {n : Nat} {y : Int32} {v : Int} (ok : rd_ok D) (n6 : n ≤ 6) (e : plR D C1 n y = some v) : -100000 ≤ v ∧ v ≤ 100000 := by
  have bt := sp_t_bd ok (rul D)
  have := rB_bd (b := 11583) (by decide) n 0 (Nat.le_refl _) (fun i q _ _ => sc_bd ok (K := fun i => C1 i 0) (w := sp_w D (rul D)) (t := sp_t D (rul D)) (q := q) (by omega) (sp_w_bd ok _ q) i) v e
  omega
theorem q10_plan {x1 x2 x3 V : Int32} (a : tc h z DD N C) (hV : ansE (plGd z x1 x2) (plVl DD N C x3) (-1000000) V) (hq : ∀ h', ax_same md_F h h' → Ret (some (.int V)) h') : mX10_plan g [.ref 77, .int x1, .int x2, .int x3] h Ret := by
  have z0 := a.2.2.2.2.1 0 (by decide)
  have z2 := a.2.2.2.2.1 2 (by decide)
  have no : ∀ h', ax_same md_F h h' → (∀ t, ¬ plGd z x1 x2 t) → Ret (some (.int (-1000000))) h' := fun h' s n => by rw [← ans_no hV n]; exact hq h' s
  obtain ⟨a1, T1, hs1⟩ := q_code (v := 0) a.2.1 a.2.2.2.1
  refine eX10_plan ⟨a.2.1.1, ?_⟩
  intro u1
  refine ⟨a.2.1.1, c_mhasErrands a1 T1 a.2.2.2.2 (fun h2 r2 e41 e45 e42 => ⟨_, rfl, fun q0 => no _ (sm_tr hs1 (sm_mono r2.1 (fun x e => Or.inl (e.resolve_right id)))) (fun t G => in_no (b2i_0.mp q0) z2 G.2.2.1 G.2.2.2), fun q => ?_⟩)⟩
  have hs2 : ax_same md_F h h2 := sm_tr hs1 (sm_mono r2.1 (fun x e => Or.inl (e.resolve_right id)))
  have b := tc_md hs2 a
  refine ⟨b.2.1.1, q_handR b.2.1 b.2.2.2.1 b.2.2.2.2 (fun q0 => ⟨_, rfl, fun _ => no _ hs2 (fun t G => in_no q0 z0 G.1 G.2.1), fun q => absurd rfl q⟩) (fun k hk ex ok h' hs hm => ⟨_, rfl, fun q => absurd q (by decide), fun _ => ?_⟩)⟩
  obtain ⟨w, hw, ew⟩ := sp_in_ix (by omega) (b2i_n0.mp q)
  subst ew
  rw [sp_in_nI (by omega) hw, if_pos rfl, nI_clamp (by omega)] at e42
  have n6 : N 2 w ≤ 6 := (a.2.2.2.2.2.2 2 w (by decide) (by decide) hw).1
  have M : pM h h' k (DD k) w (N 2 w) 0 := ⟨sm_tr hs2 (hd_md hs), hm, by rw [(hs.2 41 (by unfold hd_J; decide)).1]; exact e41, by rw [(hs.2 42 (by unfold hd_J; decide)).1]; exact e42, by rw [(hs.2 45 (by unfold hd_J; decide)).1]; exact e45⟩
  have s0 := hm.1.1.1.1
  have tb1 := sp_t_bd ok (rul (DD k))
  have eTl : (sp_t (DD k) (rul (DD k))).toInt64.toInt = (sp_t (DD k) (rul (DD k))).toInt := i_64 _
  have tt : 0 < ((sp_t (DD k) (rul (DD k))).toInt64 * (sp_t (DD k) (rul (DD k))).toInt64).toInt := by
    have pz : 0 < (sp_t (DD k) (rul (DD k))).toInt * (sp_t (DD k) (rul (DD k))).toInt := Int.mul_pos tb1.1 tb1.1
    have bz := abs_mul (a := 108) (b := 108) (x := (sp_t (DD k) (rul (DD k))).toInt) (y := (sp_t (DD k) (rul (DD k))).toInt) (by decide) (by decide) (by omega) (by omega)
    rw [i64_mul (by rw [i_64]; omega) (by rw [i_64]; omega), i_64]; exact pz
  have hV2 : V = plA (DD k) (C 2 w) (N 2 w) x3 := ans_yes (t := (k, w)) hV ⟨hk, ex, hw, rfl⟩ (fun t' G' => plGd_u a.2.2.2.2 ⟨hk, ex, hw, rfl⟩ G')
  have fin : ∀ (u : Int32) h3, ax_same md_F h h3 → V = u → Ret (some (.int u)) h3 := fun u h3 s3 e => by rw [← e]; exact hq h3 s3
  have ne : plR (DD k) (C 2 w) (N 2 w) 0 = none → V = -1000000 := fun e => by rw [hV2]; unfold plA; rw [e]
  have sm : ∀ v, plR (DD k) (C 2 w) (N 2 w) 0 = some v → V = plX (DD k) (C 2 w) (N 2 w) v x3 := fun v e => by rw [hV2]; unfold plA; rw [e]
  have kb := plK_bd (C1 := C 2 w) ok n6
  have part2 : ∀ (u : Int32) (x : Int) (y : Int64) h3, ax_same md_F h h3 → -100000000 ≤ x ∧ x ≤ 100000000 → y.toInt = (sp_t (DD k) (rul (DD k))).toInt * x → V = sdI x (DD k) u → mX10_part g [.long y, .long ((sp_t (DD k) (rul (DD k))).toInt64 * (sp_t (DD k) (rul (DD k))).toInt64), .int u] h3 (fun v20 h19 => ∃ r21 : Int64, v20 = some (.long r21) ∧ Ret (some (.int r21.toInt32)) h19) := fun u x y h3 s3 bx ey e => by
    have m2 := abs_mul (a := 108) (b := 100000000) (x := (sp_t (DD k) (rul (DD k))).toInt) (y := x) (by decide) (by decide) (by omega) bx
    refine c_part (by rw [ey]; omega) tt ⟨_, rfl, fin _ h3 s3 ?_⟩
    rw [e, sd_scale (x := x) (by rw [eTl]; omega) bx (by rw [eTl]; exact ey)]; rfl
  have part1 : ∀ (u : Int32) (x : Int) h3, ax_same md_F h h3 → -100000000 ≤ x ∧ x ≤ 100000000 → V = sdI x (DD k) u → mX10_part g [.long (Int64.ofInt x), .long (sp_t (DD k) (rul (DD k))).toInt64, .int u] h3 (fun v20 h19 => ∃ r21 : Int64, v20 = some (.long r21) ∧ Ret (some (.int r21.toInt32)) h19) := fun u x h3 s3 bx e => c_part (by rw [ofI (by omega) (by omega)]; omega) (t_pos ok) ⟨_, rfl, fin _ h3 s3 e⟩
  refine c_min ⟨_, rfl, fun q6 => ⟨s0, ?_⟩, fun q6 => ⟨s0, ?_⟩⟩
  · have cs : x3 = 0 ∨ x3 = 1 ∨ x3 = 2 ∨ x3 = 3 ∨ x3 = 4 ∨ x3 = 5 ∨ x3 = 6 := by
      have r := of_decide_eq_true (b2i_n0.mp q6)
      obtain ⟨m, -, hm6, rfl⟩ := i_rng (a := 0) (b := 6) (by decide) (by decide) r.1 r.2
      rcases (by omega : m = 0 ∨ m = 1 ∨ m = 2 ∨ m = 3 ∨ m = 4 ∨ m = 5 ∨ m = 6) with rfl | rfl | rfl | rfl | rfl | rfl | rfl
      · exact Or.inl rfl
      · exact Or.inr (Or.inl rfl)
      · exact Or.inr (Or.inr (Or.inl rfl))
      · exact Or.inr (Or.inr (Or.inr (Or.inl rfl)))
      · exact Or.inr (Or.inr (Or.inr (Or.inr (Or.inl rfl))))
      · exact Or.inr (Or.inr (Or.inr (Or.inr (Or.inr (Or.inl rfl)))))
      · exact Or.inr (Or.inr (Or.inr (Or.inr (Or.inr (Or.inr rfl)))))
    have hx : x3 < 10 := by rcases cs with rfl | rfl | rfl | rfl | rfl | rfl | rfl <;> decide
    refine c_findBestE a ok M hw (scA_blind ok) (fun h3 M3 r3 G3 => ⟨_, rfl, fun nev => ⟨M3.2.1.1.1.1.1, ?_⟩, fun nv => ?_⟩)
    · cases er : plR (DD k) (C 2 w) (N 2 w) 0 with
      | none => exact absurd (cmp_eq.mpr (by rw [show rBx (N 2 w) (dH (DD k)) (mayC (C 2 w) 0) (scC (DD k) (fun i => C 2 w i 0) (sp_w (DD k) (rul (DD k))) (sp_t (DD k) (rul (DD k)))) (N 2 w) 0 = none from er]; rfl)) nev
      | some v =>
        have eA := sm v er
        have bv := pl_bd ok n6 er
        have eRB : rBx (N 2 w) (dH (DD k)) (mayC (C 2 w) 0) (scC (DD k) (fun i => C 2 w i 0) (sp_w (DD k) (rul (DD k))) (sp_t (DD k) (rul (DD k)))) (N 2 w) 0 = some v := er
        have gl := pl_lt ok er
        refine c_choose10E a ok M3 hw (scA_blind ok) G3 er (fun h4 M4 l4 d4 => ⟨rfl, fun _ => ⟨fun ge2 => ⟨M4.2.1.1.1.1.1, c_ruedE (F := plG (DD k) (C 2 w) (N 2 w)) a ok M4 hw (fun i hi => ⟨d4 i hi, gl i hi⟩) (fun sc => rB_has er) (fun h5 M5 e46 => ⟨_, rfl, fun n6' => ⟨M5.2.1.1.1.1.1, M5.2.1.1.1.1.1, ?_⟩, fun e6 => ?_⟩)⟩, fun lt2 => ⟨M4.2.1.1.1.1.1, ?_⟩⟩, fun q => absurd hx q⟩)
        · have s5 := M5.2.1.1.1.1.1
          rw [M5.2.1.2.2.1, eRB]
          have mK := abs_mul (a := 108) (b := 10000000) (x := (sp_t (DD k) (rul (DD k))).toInt) (y := plK (DD k) (C 2 w) (N 2 w)) (by decide) (by decide) (by omega) kb
          have e46' : (ax_l h5 77 46).toInt = (sp_t (DD k) (rul (DD k))).toInt * plK (DD k) (C 2 w) (N 2 w) := by rw [e46]; exact ofI (by show -9223372036854775808 ≤ (sp_t (DD k) (rul (DD k))).toInt * plK (DD k) (C 2 w) (N 2 w); omega) (by show (sp_t (DD k) (rul (DD k))).toInt * plK (DD k) (C 2 w) (N 2 w) < 9223372036854775808; omega)
          have mv := abs_mul (a := 100000) (b := 108) (x := v) (y := (sp_t (DD k) (rul (DD k))).toInt) (by decide) (by decide) bv (by omega)
          have ep : (Int64.ofInt v * (sp_t (DD k) (rul (DD k))).toInt64).toInt = v * (sp_t (DD k) (rul (DD k))).toInt := by rw [i64_mul (by rw [i_64, ofI (by omega) (by omega)]; omega) (by rw [i_64, ofI (by omega) (by omega)]; omega), i_64, ofI (by omega) (by omega)]
          have ed : (ax_l h5 77 46 - encN (some v) * (sp_t (DD k) (rul (DD k))).toInt64).toInt = (sp_t (DD k) (rul (DD k))).toInt * (plK (DD k) (C 2 w) (N 2 w) - v) := by
            show (ax_l h5 77 46 - Int64.ofInt v * (sp_t (DD k) (rul (DD k))).toInt64).toInt = _
            rw [i64_sub (by rw [e46', ep]; omega) (by rw [e46', ep]; omega), e46', ep, Int.mul_sub, Int.mul_comm v]
          refine ⟨fun ge4 => ⟨s5, s5, fun e3 => ?_, fun n3 => ⟨fun n5 => ?_, fun e5 => ?_⟩⟩, fun lt4 => ⟨s5, fun e3 => ?_, fun n3 => ⟨fun n5 => ?_, fun e5 => ?_⟩⟩⟩
          · subst e3; exact absurd ge4 (by decide)
          · have e4 : x3 = 4 := by
              rcases cs with rfl | rfl | rfl | rfl | rfl | rfl | rfl
              all_goals first | rfl | exact absurd ge4 (by decide) | exact absurd rfl n5 | exact absurd rfl n6'
            refine part2 _ _ _ h5 M5.1 (by omega) ed ?_
            rw [eA, e4, plX_4]
          · refine part2 _ _ _ h5 M5.1 (by omega) ed ?_
            rw [eA, e5, plX_5]
          · refine part2 _ _ _ h5 M5.1 (by omega) e46' ?_
            rw [eA, e3, plX_3]
          · have e2 : x3 = 2 := by
              rcases cs with rfl | rfl | rfl | rfl | rfl | rfl | rfl
              all_goals first | rfl | exact absurd ge2 (by decide) | exact absurd (by decide) lt4 | exact absurd rfl n3
            refine part2 _ _ _ h5 M5.1 (by omega) e46' ?_
            rw [eA, e2, plX_2]
          · subst e5; exact absurd (by decide) lt4
        · refine fin _ h5 M5.1 ?_
          rw [eA, e6, plX_6]; rfl
        · rw [M4.2.1.2.2.1, eRB]
          refine ⟨fun n1 => ?_, fun e1 => ?_⟩
          · have e0 : x3 = 0 := by
              rcases cs with rfl | rfl | rfl | rfl | rfl | rfl | rfl
              all_goals first | rfl | exact absurd rfl n1 | exact absurd (by decide) lt2
            exact part1 _ v h4 M4.1 (by omega) (by rw [eA, e0, plX_0])
          · exact part1 _ v h4 M4.1 (by omega) (by rw [eA, e1, plX_1])
    · cases er : plR (DD k) (C 2 w) (N 2 w) 0 with
      | none => exact fin _ h3 M3.1 (ne er)
      | some v =>
        have e0 := cmp_eq.mp nv
        rw [show rBx (N 2 w) (dH (DD k)) (mayC (C 2 w) 0) (scC (DD k) (fun i => C 2 w i 0) (sp_w (DD k) (rul (DD k))) (sp_t (DD k) (rul (DD k)))) (N 2 w) 0 = some v from er] at e0
        have bv := pl_bd ok n6 er
        exact absurd e0 (ofN_ne (by omega))
  · rw [M.2.2.2.1, show (9 : Int32) + nI (N 2 w) = nI (9 + N 2 w) from ni_c 9 _]
    have q6' := of_decide_eq_false (b2i_0.mp q6)
    have nz : ∀ c : Int32, (0 : Int32) ≤ c ∧ c ≤ 6 → ¬ x3 = c := fun c hc e => q6' (by rw [e]; exact hc)
    refine c_min ⟨_, rfl, fun q10 => ⟨s0, ?_⟩, fun q10 => fin _ _ M.1 ?_⟩
    · have yq := of_decide_eq_true (b2i_n0.mp q10)
      have hx : ∃ i, i < N 2 w ∧ x3 = nI (10 + i) := by
        have y1 := i_le.mp yq.1
        have y2 := i_le.mp yq.2
        rw [nI_toInt (by omega)] at y2
        change (10 : Int) ≤ _ at y1
        obtain ⟨m, m1, m2, rfl⟩ := i_rng (a := 10) (b := 9 + N 2 w) (by omega) (by omega) yq.1 yq.2
        obtain ⟨i, rfl⟩ := Nat.exists_eq_add_of_le m1
        exact ⟨i, by omega, rfl⟩
      obtain ⟨i, hi, rfl⟩ := hx
      have n10 : ¬ nI (10 + i) < 10 := nI_nlt (b := 10) (a := 10 + i) (by omega) (by omega)
      have es : nI (10 + i) - 10 = nI i := ni_sb
      refine c_findBestE a ok M hw (scA_blind ok) (fun h3 M3 r3 G3 => ⟨_, rfl, fun nev => ⟨M3.2.1.1.1.1.1, ?_⟩, fun nv => ?_⟩)
      · cases er : plR (DD k) (C 2 w) (N 2 w) 0 with
        | none => exact absurd (cmp_eq.mpr (by rw [show rBx (N 2 w) (dH (DD k)) (mayC (C 2 w) 0) (scC (DD k) (fun i => C 2 w i 0) (sp_w (DD k) (rul (DD k))) (sp_t (DD k) (rul (DD k)))) (N 2 w) 0 = none from er]; rfl)) nev
        | some v =>
          have eA := sm v er
          refine c_choose10E a ok M3 hw (scA_blind ok) G3 er (fun h4 M4 l4 d4 => ⟨rfl, fun q => absurd q n10, fun _ => ⟨M4.2.1.1.1.1.1, ?_⟩⟩)
          obtain ⟨f1, f2⟩ := mo_ch M4.2.1.1.1.1
          refine ⟨_, f1, by rw [f2], by rw [es, f2]; exact vp_in_nI (by omega) (by decide), fin _ _ M4.1 ?_⟩
          rw [eA, plX_d (ne_big n10 (by decide)) (ne_big n10 (by decide)) (ne_big n10 (by decide)) (ne_big n10 (by decide)) (ne_big n10 (by decide)) (ne_big n10 (by decide)) (ne_big n10 (by decide)), if_neg n10, es, if_pos (sp_in_nI (by omega) hi), nI_clamp (by omega)]
          exact (d4 i hi).symm
      · cases er : plR (DD k) (C 2 w) (N 2 w) 0 with
        | none => exact fin _ h3 M3.1 (ne er)
        | some v =>
          have e0 := cmp_eq.mp nv
          rw [show rBx (N 2 w) (dH (DD k)) (mayC (C 2 w) 0) (scC (DD k) (fun i => C 2 w i 0) (sp_w (DD k) (rul (DD k))) (sp_t (DD k) (rul (DD k)))) (N 2 w) 0 = some v from er] at e0
          have bv := pl_bd ok n6 er
          exact absurd e0 (ofN_ne (by omega))
    · cases er : plR (DD k) (C 2 w) (N 2 w) 0 with
      | none => exact ne er
      | some v =>
        rw [sm v er, plX_d (nz 0 (by decide)) (nz 1 (by decide)) (nz 2 (by decide)) (nz 3 (by decide)) (nz 4 (by decide)) (nz 5 (by decide)) (nz 6 (by decide))]
        by_cases l : x3 < 10
        · rw [if_pos l]
        · rw [if_neg l]
          by_cases i : sp_in (x3 - 10) (N 2 w) = true
          · obtain ⟨j, hj, ej⟩ := sp_in_ix (by omega) i
            have e : x3 = nI (10 + j) := by
              have : x3 = (x3 - 10) + 10 := by rw [Int32.sub_add_cancel]
              rw [this, ej, show (10 : Int32) = nI 10 from rfl, nI_add, Nat.add_comm]
            have q10' := of_decide_eq_false (b2i_0.mp q10)
            exact absurd ⟨by rw [e]; exact nI_le (a := 10) (by omega) (by omega), by rw [e]; exact nI_le (by omega) (by omega)⟩ q10'
          · rw [if_neg i]
theorem q10_free {x1 x2 x3 V : Int32} (a : tc h z DD N C) (hV : ansE (plGd z x1 x2) (frVl DD N C x3) (-1000000) V) (hq : ∀ h', ax_same md_F h h' → Ret (some (.int V)) h') : mX10_free g [.ref 77, .int x1, .int x2, .int x3] h Ret := by
  have z0 := a.2.2.2.2.1 0 (by decide)
  have z2 := a.2.2.2.2.1 2 (by decide)
  have no : ∀ h', ax_same md_F h h' → (∀ t, ¬ plGd z x1 x2 t) → Ret (some (.int (-1000000))) h' := fun h' s n => by rw [← ans_no hV n]; exact hq h' s
  obtain ⟨a1, T1, hs1⟩ := q_code (v := 0) a.2.1 a.2.2.2.1
  refine eX10_free ⟨a.2.1.1, ?_⟩
  intro u1
  refine ⟨a.2.1.1, c_mhasErrands a1 T1 a.2.2.2.2 (fun h2 r2 e41 e45 e42 => ⟨_, rfl, fun q0 => no _ (sm_tr hs1 (sm_mono r2.1 (fun x e => Or.inl (e.resolve_right id)))) (fun t G => in_no (b2i_0.mp q0) z2 G.2.2.1 G.2.2.2), fun q => ?_⟩)⟩
  have hs2 : ax_same md_F h h2 := sm_tr hs1 (sm_mono r2.1 (fun x e => Or.inl (e.resolve_right id)))
  have b := tc_md hs2 a
  refine ⟨b.2.1.1, q_handR b.2.1 b.2.2.2.1 b.2.2.2.2 (fun q0 => ⟨_, rfl, fun q => absurd rfl q, fun _ => no _ hs2 (fun t G => in_no q0 z0 G.1 G.2.1)⟩) (fun k hk ex ok h' hs hm => ⟨_, rfl, fun _ => ⟨hm.1.1.1.1, ?_⟩, fun q => absurd q (by decide)⟩)⟩
  obtain ⟨w, hw, ew⟩ := sp_in_ix (by omega) (b2i_n0.mp q)
  subst ew
  rw [sp_in_nI (by omega) hw, if_pos rfl, nI_clamp (by omega)] at e42
  have n6 : N 2 w ≤ 6 := (a.2.2.2.2.2.2 2 w (by decide) (by decide) hw).1
  have M : pM h h' k (DD k) w (N 2 w) 0 := ⟨sm_tr hs2 (hd_md hs), hm, by rw [(hs.2 41 (by unfold hd_J; decide)).1]; exact e41, by rw [(hs.2 42 (by unfold hd_J; decide)).1]; exact e42, by rw [(hs.2 45 (by unfold hd_J; decide)).1]; exact e45⟩
  have f45 : ∀ (h3 : ax_H) (y v : Int32), pM h h3 k (DD k) w (N 2 w) y → pM h (ax_pi h3 77 45 v) k (DD k) w (N 2 w) v := fun h3 y v M3 => ⟨sm_tr M3.1 (sm_pi (Or.inl rfl)), hm_mr M3.2.1 (mr_f (J := fun j => j = 45) (F := fun _ => False) rfl) (fun j hj => by omega) (fun a ha => ha.elim), by rw [ai_pi, if_neg (by decide)]; exact M3.2.2.1, by rw [ai_pi, if_neg (by decide)]; exact M3.2.2.2.1, by rw [ai_pi, if_pos ⟨rfl, rfl⟩]⟩
  have hV2 : V = frA (DD k) (C 2 w) (N 2 w) x3 := ans_yes (t := (k, w)) hV ⟨hk, ex, hw, rfl⟩ (fun t' G' => plGd_u a.2.2.2.2 ⟨hk, ex, hw, rfl⟩ G')
  have fin : ∀ (u : Int32) h3, ax_same md_F h h3 → V = u → Ret (some (.int u)) h3 := fun u h3 s3 e => by rw [← e]; exact hq h3 s3
  refine c_findBestE a ok M hw (scA_blind ok) (fun h3 M3 r3 _ => ⟨_, rfl, Or.inr rfl, M3.2.1.1.1.1.1, ?_⟩)
  intro u11
  have M11 : pM h u11 k (DD k) w (N 2 w) 1 := f45 h3 0 1 M3
  refine ⟨M11.2.1.1.1.1.1, c_findBestE a ok M11 hw (scA_blind ok) (fun h4 M4 r4 _ => ⟨_, rfl, Or.inl rfl, M4.2.1.1.1.1.1, ?_⟩)⟩
  intro u15
  have M15 : pM h u15 k (DD k) w (N 2 w) 0 := f45 h4 1 0 M4
  cases er : plR (DD k) (C 2 w) (N 2 w) 0 with
  | none =>
    have eRB : rBx (N 2 w) (dH (DD k)) (mayC (C 2 w) 0) (scC (DD k) (fun i => C 2 w i 0) (sp_w (DD k) (rul (DD k))) (sp_t (DD k) (rul (DD k)))) (N 2 w) 0 = none := er
    rw [eRB]
    exact ⟨fun _ => fin _ _ M15.1 (by rw [hV2]; unfold frA; rw [er]), fun n => absurd (cmp_eq.mpr rfl) n⟩
  | some v =>
    have bv := pl_bd ok n6 er
    have eRB : rBx (N 2 w) (dH (DD k)) (mayC (C 2 w) 0) (scC (DD k) (fun i => C 2 w i 0) (sp_w (DD k) (rul (DD k))) (sp_t (DD k) (rul (DD k)))) (N 2 w) 0 = some v := er
    rw [eRB]
    refine ⟨fun n => absurd (cmp_eq.mp n) (ofN_ne (by omega)), fun _ => ?_⟩
    cases er1 : plR (DD k) (C 2 w) (N 2 w) 1 with
    | none =>
      have eRB1 : rBx (N 2 w) (dH (DD k)) (mayC (C 2 w) 1) (scC (DD k) (fun i => C 2 w i 0) (sp_w (DD k) (rul (DD k))) (sp_t (DD k) (rul (DD k)))) (N 2 w) 0 = none := er1
      rw [eRB1]
      exact ⟨fun n => absurd (cmp_eq.mpr rfl) n, fun _ => fin _ _ M15.1 (by rw [hV2]; unfold frA; rw [er, er1])⟩
    | some u =>
      have bu := pl_bd ok n6 er1
      have eRB1 : rBx (N 2 w) (dH (DD k)) (mayC (C 2 w) 1) (scC (DD k) (fun i => C 2 w i 0) (sp_w (DD k) (rul (DD k))) (sp_t (DD k) (rul (DD k)))) (N 2 w) 0 = some u := er1
      rw [eRB1]
      refine ⟨fun _ => ⟨M15.2.1.1.1.1.1, ?_⟩, fun n => absurd (cmp_eq.mp n) (ofN_ne (by omega))⟩
      have sub : encN (some u) - encN (some v) = Int64.ofInt (u - v) := by
        show Int64.ofInt u - Int64.ofInt v = _
        refine ofI_eq (by omega) (by omega) ?_
        rw [i64_sub (by rw [ofI (by omega) (by omega), ofI (by omega) (by omega)]; omega) (by rw [ofI (by omega) (by omega), ofI (by omega) (by omega)]; omega), ofI (by omega) (by omega), ofI (by omega) (by omega)]
      rw [M15.2.1.2.2.1, sub]
      refine c_part (by rw [ofI (by omega) (by omega)]; omega) (t_pos ok) ⟨_, rfl, fin _ _ M15.1 ?_⟩
      rw [hV2]; unfold frA; rw [er, er1]; rfl
theorem g_plan (a : IV h S Im tp) (b : 103 ≤ h.1 ∧ h.1 ≤ B) (x1 x2 x3 : Int32) : prI (mX9_plan g) (mX10_plan g) [.ref 0, .int x1, .int x2, .int x3] [.ref 77, .int x1, .int x2, .int x3] h (inv B) := by
  obtain ⟨V, hV⟩ := ans_ex (plGd (s_z S) x1 x2) (plVl (s_D S) (s_N S) (s_C S) x3) (-1000000)
  exact pr_q V a b (fun Ret k => q9_plan (iv_tc a) a.1.1.2.2.2.1 hV k) (fun h1 Ret a1 k => q10_plan (iv_tc a1) hV k)
theorem g_free (a : IV h S Im tp) (b : 103 ≤ h.1 ∧ h.1 ≤ B) (x1 x2 x3 : Int32) : prI (mX9_free g) (mX10_free g) [.ref 0, .int x1, .int x2, .int x3] [.ref 77, .int x1, .int x2, .int x3] h (inv B) := by
  obtain ⟨V, hV⟩ := ans_ex (plGd (s_z S) x1 x2) (frVl (s_D S) (s_N S) (s_C S) x3) (-1000000)
  exact pr_q V a b (fun Ret k => q9_free (iv_tc a) a.1.1.2.2.2.1 hV k) (fun h1 Ret a1 k => q10_free (iv_tc a1) hV k)
end
