section
variable {g : ax_G} {Ret : Option Value → ax_H → Prop} {h : ax_H} {z : Nat → Nat} {DD : Nat → rD} {N : Nat → Nat → Nat} {C : Nat → Nat → Nat → Nat → Int32} {S : sT} {Im : Nat → Option sT} {tp : Nat → Nat} {B : Nat}
/-! TWO -/
def s_e3 (D : rD) (k : Int32) : Int32 := if sp_mo D k = 0 then sp_ex D k + sp_ex D k else sp_ex D k
def s_two (x2 x3 x4 : Int32) (D : rD) : Int32 := if sp_in x2 (dP D) = true ∧ sp_in x3 (dH D) = true ∧ sp_in x4 (dH D) = true then sp_wd D x2 + (if x3 = x4 then s_e3 D (sp_de D x2 x3) else sp_ex D (sp_de D x2 x3) + sp_ex D (sp_de D x2 x4)) else -1000000
theorem mw_three {D : rD} {p q : Nat} (hd : rd_de D) (hp : p < dP D) (hq : q < dH D) (hH : dH D ≤ 12) (hP : dP D ≤ 6) (hmo : ∀ k, k < 6 → dmo D k = 0 ∨ dmo D k = 1 ∨ dmo D k = 2) : sp_mw D (dmo D) p q 3 = sp_wo D (sp_de D (nI p) (nI q)) + s_e3 D (sp_de D (nI p) (nI q)) := by
  rw [← mw_one hd hp hq hH hP (mo := dmo D), de_nI hp hq hP hH]
  unfold s_e3 sp_ex sp_xb sp_mo sp_mw sp_wo
  rcases hd p q hp hq with e | ⟨k, hk, e⟩
  · rw [e, if_pos rfl, if_pos rfl, if_pos (Or.inl (by decide)), if_neg (by decide), if_neg (by decide), if_neg (by decide)]
    rfl
  · have hn : ¬ (nI k < 0 ∨ 6 ≤ nI k) := by
      rintro (z | z)
      · exact nI_pos (by omega) z
      · exact nI_ge (a := k) (b := 6) hk (by decide) z
    rw [e, if_neg (nI_nm1 (by omega)), if_neg (nI_nm1 (by omega)), if_neg hn, if_neg hn, nI_clamp (by omega), if_pos rfl, if_neg (by decide)]
    unfold sp_ti
    rcases hmo k hk with z | z | z
    · rw [z, if_pos rfl, if_pos rfl, if_pos rfl, Int32.mul_one, show (3 : Int32) = 1 + (1 + 1) from rfl, Int32.mul_add, Int32.mul_add, Int32.mul_one]
    · rw [z, if_neg (by decide), if_pos rfl, if_neg (by decide), if_neg (by decide), if_neg (by decide), Int32.mul_one, Int32.add_zero]
    · rw [z, if_neg (by decide), if_neg (by decide), if_neg (by decide), if_neg (by decide), if_pos rfl, Int32.mul_one, Int32.mul_zero, Int32.add_right_neg]
theorem vb_two {D : rD} {p q r : Nat} (hd : rd_de D) (hp : p < dP D) (hq : q < dH D) (hr : r < dH D) (hH : dH D ≤ 12) (hP : dP D ≤ 6) (hmo : ∀ k, k < 6 → dmo D k = 0 ∨ dmo D k = 1 ∨ dmo D k = 2) : sp_vb D (dmo D) p (nI q) (nI r) = sp_wd D (nI p) + (if nI q = nI r then s_e3 D (sp_de D (nI p) (nI q)) else sp_ex D (sp_de D (nI p) (nI q)) + sp_ex D (sp_de D (nI p) (nI r))) := by
  have nn : ∀ {i j : Nat}, i < 12 → j < 12 → ¬ i = j → ¬ nI i = nI j := fun a b e z => e ((nI_eq (by omega) (by omega)).mp z)
  unfold sp_vb sp_wd
  by_cases e : q = r
  · subst e
    rw [if_pos rfl]
    have := sumN_one (f := fun i => sp_wo D (sp_de D (nI p) (nI i))) (e := fun i => s_e3 D (sp_de D (nI p) (nI i))) (q := q) (n := dH D)
    rw [if_pos hq] at this
    rw [← this]
    refine sumN_congr (fun i hi => ?_)
    unfold sp_lv
    by_cases e : i = q
    · subst e
      rw [if_pos rfl, if_pos rfl, show ((1 : Int32) + 1 + 1) = 3 from rfl]
      exact mw_three hd hp hq hH hP hmo
    · rw [if_neg (nn (by omega) (by omega) e), if_neg e, show ((1 : Int32) + 0 + 0) = 1 from rfl, Int32.add_zero]
      exact mw_one hd hp hi hH hP
  · rw [if_neg (nn (by omega) (by omega) e), ← Int32.add_assoc]
    have t1 := sumN_one (f := fun i => sp_wo D (sp_de D (nI p) (nI i))) (e := fun i => sp_ex D (sp_de D (nI p) (nI i))) (q := q) (n := dH D)
    rw [if_pos hq] at t1
    have t2 := sumN_one (f := fun i => sp_wo D (sp_de D (nI p) (nI i)) + (if i = q then sp_ex D (sp_de D (nI p) (nI i)) else 0)) (e := fun i => sp_ex D (sp_de D (nI p) (nI i))) (q := r) (n := dH D)
    rw [if_pos hr, t1] at t2
    rw [← t2]
    refine sumN_congr (fun i hi => ?_)
    unfold sp_lv
    by_cases e1 : i = q
    · subst e1
      rw [if_pos rfl, if_pos rfl, if_neg (nn (by omega) (by omega) e), if_neg e, show ((1 : Int32) + 1 + 0) = 2 from rfl, Int32.add_zero]
      exact mw_two hd hp hq hH hP hmo
    · rw [if_neg (nn (by omega) (by omega) e1), if_neg e1]
      by_cases e2 : i = r
      · subst e2
        rw [if_pos rfl, if_pos rfl, show ((1 : Int32) + 0 + 1) = 2 from rfl, Int32.add_zero]
        exact mw_two hd hp hr hH hP hmo
      · rw [if_neg (nn (by omega) (by omega) e2), if_neg e2, show ((1 : Int32) + 0 + 0) = 1 from rfl, Int32.add_zero, Int32.add_zero]
        exact mw_one hd hp hi hH hP
theorem q9_two {x1 x2 x3 x4 : Int32} (a : tc h z DD N C) (hq : ∀ h', ax_same cl_F h h' → Ret (some (.int (qv (z 0) DD x1 (-1000000) (s_two x2 x3 x4)))) h') : mX9_two g [.ref 0, .int x1, .int x2, .int x3, .int x4] h Ret := by
  have z2 := a.2.2.2.2.1 0 (by decide)
  have hv := hq h sm_rf
  refine eX9_two ⟨a.1.1, _, a.1.2.1.1, a.2.2.1.1.1, c_republicAt a.2.2.1 (fun q => Or.inr ⟨rfl, ?_⟩) (fun k hk ex => ?_)⟩
  · rwa [qv_no q] at hv
  · have rc := a.2.2.1.2.2.1 k hk
    rw [qv_yes z2 hk ex] at hv
    unfold s_two at hv
    refine Or.inl ⟨_, rfl, rc.1.1, c_hasPerson rc ⟨_, rfl, fun q => ?_, fun q => ⟨rc.1.1, c_hasHour rc ⟨_, rfl, fun q1 => ?_, fun q1 => ⟨rc.1.1, c_hasHour rc ⟨_, rfl, fun q2 => ⟨rc.1.1, c_deedAt rc ⟨_, rfl, rc.1.1, c_extraOf rc ⟨_, rfl, fun e => ⟨rc.1.1, c_modeOf rc ⟨_, rfl, fun m => ⟨rc.1.1, c_worthOfDeeds rc ⟨_, rfl, ?_⟩⟩, fun m => ⟨rc.1.1, c_worthOfDeeds rc ⟨_, rfl, ?_⟩⟩⟩⟩, fun e => ⟨rc.1.1, c_deedAt rc ⟨_, rfl, rc.1.1, c_extraOf rc ⟨_, rfl, rc.1.1, c_worthOfDeeds rc ⟨_, rfl, ?_⟩⟩⟩⟩⟩⟩⟩, fun q2 => ?_⟩⟩⟩⟩⟩⟩
    · rw [if_neg (fun w => by rw [b2i_0.mp q] at w; exact absurd w.1 (by decide))] at hv; exact hv
    · rw [if_neg (fun w => by rw [b2i_0.mp q1] at w; exact absurd w.2.1 (by decide))] at hv; exact hv
    · rw [if_pos ⟨b2i_n0.mp q, b2i_n0.mp q1, b2i_n0.mp q2⟩, if_pos e] at hv; unfold s_e3 at hv; rw [if_neg m] at hv; exact hv
    · rw [if_pos ⟨b2i_n0.mp q, b2i_n0.mp q1, b2i_n0.mp q2⟩, if_pos e] at hv; unfold s_e3 at hv; rw [if_pos m] at hv; exact hv
    · rw [if_pos ⟨b2i_n0.mp q, b2i_n0.mp q1, b2i_n0.mp q2⟩, if_neg e] at hv; exact hv
    · rw [if_neg (fun w => by rw [b2i_0.mp q2] at w; exact absurd w.2.2 (by decide))] at hv; exact hv
theorem q10_two {x1 x2 x3 x4 : Int32} (a : tc h z DD N C) (hq : ∀ h', ax_same md_F h h' → Ret (some (.int (qv (z 0) DD x1 (-1000000) (s_two x2 x3 x4)))) h') : mX10_two g [.ref 77, .int x1, .int x2, .int x3, .int x4] h Ret := by
  refine eX10_two ⟨a.2.1.1, ?_⟩
  intro h1
  refine ⟨a.2.1.1, q_one (f := s_two x2 x3 x4) (d := -1000000) a hq (fun D e => by unfold s_two; rw [if_neg (fun w => by rw [e] at w; exact absurd w.1 (by decide))]) (fun h' r => ⟨_, rfl, fun _ => r, fun q => absurd rfl q⟩) (fun k p hk ok hp ep h' hm hr => ?_)⟩
  have hv := hr h' sm_rf
  have mb := hm.1.1
  subst ep
  have H12 := ok.1.2
  have P6 := ok.2.1
  unfold s_two at hv
  refine ⟨_, rfl, fun q => absurd q (by decide), fun _ => ⟨mb.1.1, c_misHour mb ⟨_, rfl, fun q => ?_, fun q => ⟨mb.1.1, c_misHour mb ⟨_, rfl, fun q1 => ?_, fun q1 => ⟨mb.1.1, ?_⟩⟩⟩⟩⟩⟩
  · rw [if_neg (fun w => by rw [b2i_0.mp q] at w; exact absurd w.2.1 (by decide))] at hv; exact hv
  · rw [if_neg (fun w => by rw [b2i_0.mp q1] at w; exact absurd w.2.2 (by decide))] at hv; exact hv
  · rw [if_pos ⟨sp_in_nI (by omega) hp, b2i_n0.mp q, b2i_n0.mp q1⟩] at hv
    obtain ⟨i, hi, rfl⟩ := sp_in_ix (by omega) (b2i_n0.mp q)
    obtain ⟨j, hj, rfl⟩ := sp_in_ix (by omega) (b2i_n0.mp q1)
    rw [← vb_two (rd_de_of ok) hp hi hj H12 P6 ok.2.2.2.1] at hv
    exact c_mvalueBy mb (rd_de_of ok) hp (fun q hq => hm.1.2.2.1 p q hp hq) ⟨_, rfl, hv⟩
theorem g_two (a : IV h S Im tp) (b : 103 ≤ h.1 ∧ h.1 ≤ B) (x1 x2 x3 x4 : Int32) : prI (mX9_two g) (mX10_two g) [.ref 0, .int x1, .int x2, .int x3, .int x4] [.ref 77, .int x1, .int x2, .int x3, .int x4] h (inv B) := pr_q _ a b (fun Ret k => q9_two (iv_tc a) k) (fun h1 Ret a1 k => q10_two (iv_tc a1) k)
end
