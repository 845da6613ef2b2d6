section
variable {g : ax_G} {Ret : Option Value → ax_H → Prop} {h : ax_H} {z : Nat → Nat} {DD : Nat → rD} {N : Nat → Nat → Nat} {C : Nat → Nat → Nat → Nat → Int32} {S : sT} {Im : Nat → Option sT} {tp : Nat → Nat} {B : Nat}
theorem t10_plan {x1 x2 x3 : Int32} (a : tc h z DD N C) (hq : ∀ (v : Int32) h', ax_same md_F h h' → Ret (some (.int v)) h') : mX10_plan g [.ref 77, .int x1, .int x2, .int x3] h Ret := by
  obtain ⟨a1, T1, hs1⟩ := q_code (v := 0) a.2.1 a.2.2.2.1
  refine eX10_plan ⟨a.2.1.1, ?_⟩
  intro u1
  refine ⟨a.2.1.1, c_mhasErrands a1 T1 a.2.2.2.2 (fun h2 r2 e41 e45 e42 => ⟨_, rfl, fun _ => hq _ _ (sm_tr hs1 (sm_mono r2.1 (fun x e => Or.inl (e.resolve_right id)))), fun q => ?_⟩)⟩
  have hs2 : ax_same md_F h h2 := sm_tr hs1 (sm_mono r2.1 (fun x e => Or.inl (e.resolve_right id)))
  have b := tc_md hs2 a
  refine ⟨b.2.1.1, q_handR b.2.1 b.2.2.2.1 b.2.2.2.2 (fun _ => ⟨_, rfl, fun _ => hq _ _ hs2, fun q => absurd rfl q⟩) (fun k hk ex ok h' hs hm => ⟨_, rfl, fun q => absurd q (by decide), fun _ => ?_⟩)⟩
  obtain ⟨w, hw, ew⟩ := sp_in_ix (by have := a.2.2.2.2.1 2 (by decide); omega) (b2i_n0.mp q)
  subst ew
  rw [sp_in_nI (by have := a.2.2.2.2.1 2 (by decide); omega) hw, if_pos rfl, nI_clamp (by have := a.2.2.2.2.1 2 (by decide); omega)] at e42
  have n6 : N 2 w ≤ 6 := (a.2.2.2.2.2.2 2 w (by decide) (by decide) hw).1
  have M : pM h h' k (DD k) w (N 2 w) 0 := ⟨sm_tr hs2 (hd_md hs), hm, by rw [(hs.2 41 (by unfold hd_J; decide)).1]; exact e41, by rw [(hs.2 42 (by unfold hd_J; decide)).1]; exact e42, by rw [(hs.2 45 (by unfold hd_J; decide)).1]; exact e45⟩
  have s0 := hm.1.1.1.1
  have tb1 := sp_t_bd ok (rul (DD k))
  have mt : bL 108 (sp_t (DD k) (rul (DD k))).toInt64 := bL_32 (by omega)
  have tt : 0 < ((sp_t (DD k) (rul (DD k))).toInt64 * (sp_t (DD k) (rul (DD k))).toInt64).toInt := by
    have pz : 0 < (sp_t (DD k) (rul (DD k))).toInt * (sp_t (DD k) (rul (DD k))).toInt := Int.mul_pos tb1.1 tb1.1
    have bz := abs_mul (a := 108) (b := 108) (x := (sp_t (DD k) (rul (DD k))).toInt) (y := (sp_t (DD k) (rul (DD k))).toInt) (by decide) (by decide) (by omega) (by omega)
    rw [i64_mul (by rw [i_64]; omega) (by rw [i_64]; omega), i_64]; exact pz
  refine c_min ⟨_, rfl, fun q6 => ⟨s0, ?_⟩, fun _ => ⟨s0, ?_⟩⟩
  · have hx : x3 < 10 := by
      have := (of_decide_eq_true (b2i_n0.mp q6)).2
      rw [i_le] at this; rw [i_lt]; change x3.toInt ≤ 6 at this; change x3.toInt < 10; omega
    refine c_findBest a ok M hw (fun h3 M3 r3 b3 G3 => ⟨_, rfl, fun ne => ⟨M3.2.1.1.1.1.1, c_choose10 a ok M3 hw G3 (fun e => ne (cmp_eq.mpr e)) (fun h4 M4 l4 => ⟨rfl, fun _ => ⟨fun _ => ⟨M4.2.1.1.1.1.1, c_rued a ok M4 hw (fun v h5 M5 b5 => ⟨_, rfl, fun _ => ⟨M5.2.1.1.1.1.1, M5.2.1.1.1.1.1, ?_⟩, fun _ => hq _ _ M5.1⟩)⟩, fun _ => ⟨M4.2.1.1.1.1.1, ?_⟩⟩, fun q => absurd hx q⟩)⟩, fun _ => hq _ _ M3.1⟩)
    · have s5 := M5.2.1.1.1.1.1
      rw [M5.2.1.2.2.1]
      have b46 : -9223372036854775808 < (ax_l h5 77 46).toInt := by unfold bL at b5; omega
      have bd : -9223372036854775808 < (ax_l h5 77 46 - tb h3 0 0 * (sp_t (DD k) (rul (DD k))).toInt64).toInt := by
        have bp := bL_mul (a := 1000000128304) (b := 108) (by decide) (by decide) (bL_mono b3 (by omega)) mt (by decide)
        unfold bL at bp b5
        rw [i64_sub (by omega) (by omega)]; omega
      exact ⟨fun _ => ⟨s5, s5, fun _ => c_part bd tt ⟨_, rfl, hq _ _ M5.1⟩, fun _ => ⟨fun _ => c_part bd tt ⟨_, rfl, hq _ _ M5.1⟩, fun _ => c_part bd tt ⟨_, rfl, hq _ _ M5.1⟩⟩⟩, fun _ => ⟨s5, fun _ => c_part b46 tt ⟨_, rfl, hq _ _ M5.1⟩, fun _ => ⟨fun _ => c_part b46 tt ⟨_, rfl, hq _ _ M5.1⟩, fun _ => c_part b46 tt ⟨_, rfl, hq _ _ M5.1⟩⟩⟩⟩
    · rw [M4.2.1.2.2.1]
      have bd : -9223372036854775808 < (tb h3 0 0).toInt := by unfold bQ bL at b3; omega
      exact ⟨fun _ => c_part bd (t_pos ok) ⟨_, rfl, hq _ _ M4.1⟩, fun _ => c_part bd (t_pos ok) ⟨_, rfl, hq _ _ M4.1⟩⟩
  · rw [M.2.2.2.1, show (9 : Int32) + nI (N 2 w) = nI (9 + N 2 w) from ni_c 9 _]
    refine c_min ⟨_, rfl, fun q10 => ⟨s0, ?_⟩, fun _ => hq _ _ M.1⟩
    have yq := of_decide_eq_true (b2i_n0.mp q10)
    have hx : ∃ i, i < N 2 w ∧ x3 = nI (10 + i) := by
      have y1 := i_le.mp yq.1
      have y2 := i_le.mp yq.2
      rw [nI_toInt (by omega)] at y2
      change (10 : Int) ≤ _ at y1
      obtain ⟨m, m1, m2, rfl⟩ := i_rng (a := 10) (b := 9 + N 2 w) (by omega) (by omega) yq.1 yq.2
      obtain ⟨i, rfl⟩ := Nat.exists_eq_add_of_le m1
      exact ⟨i, by omega, rfl⟩
    obtain ⟨i, hi, rfl⟩ := hx
    refine c_findBest a ok M hw (fun h3 M3 r3 b3 G3 => ⟨_, rfl, fun ne => ⟨M3.2.1.1.1.1.1, c_choose10 a ok M3 hw G3 (fun e => ne (cmp_eq.mpr e)) (fun h4 M4 l4 => ⟨rfl, fun q => absurd q (nI_nlt (b := 10) (by omega) (by omega)), fun _ => ⟨M4.2.1.1.1.1.1, ?_⟩⟩)⟩, fun _ => hq _ _ M3.1⟩)
    obtain ⟨f1, f2⟩ := mo_ch M4.2.1.1.1.1
    exact ⟨_, f1, by rw [f2], by rw [show nI (10 + i) - 10 = nI i from ni_sb, f2]; exact vp_in_nI (by omega) (by decide), hq _ _ M4.1⟩
theorem n_plan (a : IV h S Im tp) (b : 103 ≤ h.1 ∧ h.1 ≤ B) (x1 x2 x3 : Int32) : prN (mX9_plan g) (mX10_plan g) [.ref 0, .int x1, .int x2, .int x3] [.ref 77, .int x1, .int x2, .int x3] h (inv B) := pr_n a b (fun Ret k => t9_plan (iv_tc a) a.1.1.2.2.2.1 k) (fun h1 Ret a1 k => t10_plan (iv_tc a1) k)
end
