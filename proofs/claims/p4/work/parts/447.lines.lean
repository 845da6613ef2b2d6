section
variable {g : ax_G} {Ret : Option Value → ax_H → Prop} {h : ax_H} {z : Nat → Nat} {DD : Nat → rD} {N : Nat → Nat → Nat} {C : Nat → Nat → Nat → Nat → Int32} {x1 x2 x3 : Int32}
/-! ERRAND, TRAIN, SIGHT of the reference -/
theorem sp_m1 {n : Nat} : sp_in (-1) n = false := dec_f (Or.inl (by decide))
theorem ll_no {s : Nat} {v : Int32} (e : sp_in x1 (z s) = false) : sp_ll z N C s x1 x2 x3 v = v := by unfold sp_ll; rw [e]; rfl
theorem ll_yes {s r : Nat} {v : Int32} (hz : z s ≤ 2) (hr : r < z s) : sp_ll z N C s (nI r) x2 x3 v = (if x2 = -1 ∧ x3 = 0 then nI (N s r) else if sp_in x2 (N s r) && sp_in x3 (lw s) then C s r x2.toNatClampNeg x3.toNatClampNeg else v) := by unfold sp_ll; rw [sp_in_nI (by omega) hr, if_pos rfl, nI_clamp (by omega)]
theorem ll_1 {n w : Nat} {v u : Int32} {c : Int32} (e : ¬ x2 = -1) (f : sp_in x2 n = false) : (if x2 = -1 ∧ x3 = 0 then u else if sp_in x2 n && sp_in x3 w then c else v) = v := by rw [if_neg (fun q => e q.1), f]; rfl
theorem ll_2 {n w : Nat} {v u : Int32} {c : Int32} (e : ¬ x2 = -1) (f : sp_in x3 w = false) : (if x2 = -1 ∧ x3 = 0 then u else if sp_in x2 n && sp_in x3 w then c else v) = v := by rw [if_neg (fun q => e q.1), f, Bool.and_false]; rfl
theorem ll_3 {n w : Nat} {v u : Int32} {c : Int32} (e : ¬ x2 = -1) (f : sp_in x2 n = true) (f' : sp_in x3 w = true) : (if x2 = -1 ∧ x3 = 0 then u else if sp_in x2 n && sp_in x3 w then c else v) = c := by rw [if_neg (fun q => e q.1), f, f']; rfl
theorem ll_4 {n w : Nat} {v u : Int32} {c : Int32} (e : x2 = -1) (f : ¬ x3 = 0) : (if x2 = -1 ∧ x3 = 0 then u else if sp_in x2 n && sp_in x3 w then c else v) = v := by rw [if_neg (fun q => f q.2), e, sp_m1]; rfl
theorem ll_5 {n w : Nat} {v u : Int32} {c : Int32} (e : x2 = -1) (f : x3 = 0) : (if x2 = -1 ∧ x3 = 0 then u else if sp_in x2 n && sp_in x3 w then c else v) = u := if_pos ⟨e, f⟩
theorem q10_errand (a : tc h z DD N C) (hq : ∀ h', ax_same md_F h h' → Ret (some (.int (sp_ll z N C 2 x1 x2 x3 (-2)))) h') : mX10_errand g [.ref 77, .int x1, .int x2, .int x3] h Ret := by
  have K := a.2.2.2.2
  have z2 := K.1 2 (by decide)
  obtain ⟨a1, T1, hs1⟩ := q_code (v := 0) a.2.1 a.2.2.2.1
  refine eX10_errand ⟨a.2.1.1, a1.1, c_mhasErrands a1 T1 K (fun h2 hs2 e41 e45 e42 => ?_)⟩
  have hs3 : ax_same md_F (ax_pi h 77 0 0) h2 := sm_mono hs2.1 (fun x q => q.elim (fun e => Or.inl e) False.elim)
  have hq := hq h2 (sm_tr hs1 hs3)
  refine ⟨_, rfl, fun q => ?_, fun q => ?_⟩
  · obtain ⟨r, hr, rfl⟩ := sp_in_ix (by omega) (b2i_n0.mp q)
    have a2 := mo_st_same hs3 a1
    have T2 : tm_at h2 77 0 z DD N C := tm_at_same hs3 (fun j hj q => by unfold md_F at q; omega) T1
    rw [sp_in_nI (by omega) hr, if_pos rfl, nI_clamp (by omega)] at e42
    have nb : N 2 r ≤ 6 := (K.2.2 2 r (by decide) (by decide) hr).1
    rw [ll_yes z2 hr] at hq
    refine ⟨fun q2 => ⟨a2.1, ?_⟩, fun q2 => ⟨fun q3 => ?_, fun q3 => ⟨a2.1, ?_⟩⟩⟩
    · rw [e42]
      refine c_minN (by omega) ⟨_, rfl, fun q3 => ?_, fun q3 => ?_⟩
      · rw [ll_1 q2 (b2i_0.mp q3)] at hq; exact hq
      · have f3 := b2i_n0.mp q3
        obtain ⟨i, hi, rfl⟩ := sp_in_ix (by omega) f3
        show mX10_in g [.int x3, .int 0, .int (nI 3 - 1)] h2 _
        refine c_minN (by decide) ⟨_, rfl, fun q4 => ?_, fun q4 => ⟨a2.1, ?_⟩⟩
        · rw [ll_2 q2 (show sp_in x3 (lw 2) = false from b2i_0.mp q4)] at hq; exact hq
        · have f4 := b2i_n0.mp q4
          obtain ⟨j, hj, rfl⟩ := sp_in_ix (by decide) f4
          rw [ll_3 q2 f3 (show sp_in (nI j) (lw 2) = true from f4), nI_clamp (by omega), nI_clamp (by omega)] at hq
          exact c_merrandOf a2 T2 K hr e41 hi hj ⟨_, rfl, hq⟩
    · rw [ll_4 q2 q3] at hq; exact hq
    · rw [ll_5 q2 q3] at hq; rw [e42]; exact hq
  · rw [ll_no (b2i_0.mp q)] at hq; exact hq
theorem q10_train (a : tc h z DD N C) (hq : ∀ h', ax_same md_F h h' → Ret (some (.int (sp_ll z N C 3 x1 x2 x3 (-2)))) h') : mX10_train g [.ref 77, .int x1, .int x2, .int x3] h Ret := by
  have K := a.2.2.2.2
  have z2 := K.1 3 (by decide)
  obtain ⟨a1, T1, hs1⟩ := q_code (v := 0) a.2.1 a.2.2.2.1
  obtain ⟨a2, T2, hs2⟩ := mf_keep (k := 47) (v := x1) a1 T1
  have e47 : ax_i (ax_pi (ax_pi h 77 0 0) 77 47 x1) 77 47 = x1 := ai_eq
  refine eX10_train ⟨a.2.1.1, a1.1, c_mhasTable a1 T1 K ?_⟩
  have hq := hq _ (sm_tr hs1 hs2)
  revert a2 T2 hs2 e47 hq
  generalize ax_pi (ax_pi h 77 0 0) 77 47 x1 = h2
  intro a2 T2 hs2 e47 hq
  refine ⟨_, rfl, fun q => ?_, fun q => ?_⟩
  · obtain ⟨r, hr, rfl⟩ := sp_in_ix (by omega) (b2i_n0.mp q)
    have nb : N 3 r ≤ 8 := (K.2.2 3 r (by decide) (by decide) hr).1
    rw [ll_yes z2 hr] at hq
    refine ⟨fun q2 => ⟨a2.1, c_mtrains a2 T2 K hr e47 ⟨_, rfl, ?_⟩⟩, fun q2 => ⟨fun q3 => ?_, fun q3 => ⟨a2.1, c_mtrains a2 T2 K hr e47 ⟨_, rfl, ?_⟩⟩⟩⟩
    · refine c_minN (by omega) ⟨_, rfl, fun q3 => ?_, fun q3 => ?_⟩
      · rw [ll_1 q2 (b2i_0.mp q3)] at hq; exact hq
      · have f3 := b2i_n0.mp q3
        obtain ⟨i, hi, rfl⟩ := sp_in_ix (by omega) f3
        show mX10_in g [.int x3, .int 0, .int (nI 2 - 1)] h2 _
        refine c_minN (by decide) ⟨_, rfl, fun q4 => ?_, fun q4 => ⟨a2.1, ?_⟩⟩
        · rw [ll_2 q2 (show sp_in x3 (lw 3) = false from b2i_0.mp q4)] at hq; exact hq
        · have f4 := b2i_n0.mp q4
          obtain ⟨j, hj, rfl⟩ := sp_in_ix (by decide) f4
          rw [ll_3 q2 f3 (show sp_in (nI j) (lw 3) = true from f4), nI_clamp (by omega), nI_clamp (by omega)] at hq
          exact c_mtrainOf a2 T2 K hr e47 hi hj ⟨_, rfl, hq⟩
    · rw [ll_4 q2 q3] at hq; exact hq
    · rw [ll_5 q2 q3] at hq; exact hq
  · rw [ll_no (b2i_0.mp q)] at hq; exact hq
theorem q10_sight (a : tc h z DD N C) (hq : ∀ h', ax_same md_F h h' → Ret (some (.int (sp_ll z N C 4 x1 x2 x3 (-1000000)))) h') : mX10_sight g [.ref 77, .int x1, .int x2, .int x3] h Ret := by
  have K := a.2.2.2.2
  have z2 := K.1 4 (by decide)
  obtain ⟨a1, T1, hs1⟩ := q_code (v := 0) a.2.1 a.2.2.2.1
  obtain ⟨a2, T2, hs2⟩ := mf_keep (k := 49) (v := x1) a1 T1
  have e49 : ax_i (ax_pi (ax_pi h 77 0 0) 77 49 x1) 77 49 = x1 := ai_eq
  refine eX10_sight ⟨a.2.1.1, a1.1, c_mhasSights a1 T1 K ?_⟩
  have hq := hq _ (sm_tr hs1 hs2)
  revert a2 T2 hs2 e49 hq
  generalize ax_pi (ax_pi h 77 0 0) 77 49 x1 = h2
  intro a2 T2 hs2 e49 hq
  refine ⟨_, rfl, fun q => ?_, fun q => ?_⟩
  · obtain ⟨r, hr, rfl⟩ := sp_in_ix (by omega) (b2i_n0.mp q)
    have nb : N 4 r ≤ 6 := (K.2.2 4 r (by decide) (by decide) hr).1
    rw [ll_yes z2 hr] at hq
    have ei : (19 : Int32) * nI r = nI (19 * r) := by rw [show (19 : Int32) = nI 19 from rfl, pk_mul]
    have en : ax_i h2 87 (19 * r) = nI (N 4 r) := (tm_ln T2 (s := 4) (by decide) (by decide) hr).1
    refine ⟨a2.1, 87, (mo_si a2).1, sh_k (mo_si a2).2, by rw [ei, (mo_si a2).2]; exact vp_in_nI (by omega) (by decide), ?_⟩
    rw [ei, nI_clamp (by omega), en]
    refine ⟨fun q2 => ?_, fun q2 => ⟨fun q3 => ?_, fun q3 => ?_⟩⟩
    · refine c_minN (by omega) ⟨_, rfl, fun q3 => ?_, fun q3 => ?_⟩
      · rw [ll_1 q2 (b2i_0.mp q3)] at hq; exact hq
      · have f3 := b2i_n0.mp q3
        obtain ⟨i, hi, rfl⟩ := sp_in_ix (by omega) f3
        show mX10_in g [.int x3, .int 0, .int (nI 3 - 1)] h2 _
        refine c_minN (by decide) ⟨_, rfl, fun q4 => ?_, fun q4 => ⟨a2.1, ?_⟩⟩
        · rw [ll_2 q2 (show sp_in x3 (lw 4) = false from b2i_0.mp q4)] at hq; exact hq
        · have f4 := b2i_n0.mp q4
          obtain ⟨j, hj, rfl⟩ := sp_in_ix (by decide) f4
          rw [ll_3 q2 f3 (show sp_in (nI j) (lw 4) = true from f4), nI_clamp (by omega), nI_clamp (by omega)] at hq
          exact c_msightOf a2 T2 K hr e49 hi hj ⟨_, rfl, hq⟩
    · rw [ll_4 q2 q3] at hq; exact hq
    · rw [ll_5 q2 q3] at hq; exact hq
  · rw [ll_no (b2i_0.mp q)] at hq; exact hq
end
