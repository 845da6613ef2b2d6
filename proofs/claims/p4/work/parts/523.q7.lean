section
variable {g : ax_G} {Ret : Option Value → ax_H → Prop} {h : ax_H} {z : Nat → Nat} {DD : Nat → rD} {N : Nat → Nat → Nat} {C : Nat → Nat → Nat → Nat → Int32} {S : sT} {Im : Nat → Option sT} {tp : Nat → Nat} {B : Nat}
/-! PROMISE -/
def s_idl (D : rD) (x : Int32) (n : Nat) : Int64 := sumL (fun q => if sp_de D x (nI q) = -1 then (sp_w D (rul D) q).toInt64 else 0) n
def s_lvd (D : rD) (k : Int32) : Int32 := sp_wo D k + sp_ex D k
def s_prm (x2 x3 u : Int32) (D : rD) : Int32 := if sp_in x2 (dP D) = true ∧ sp_in x3 6 = true then (sp_sd (s_idl D x2 (dH D) * (s_lvd D x3).toInt64) (sp_t D (rul D)).toInt64 u).toInt32 else -1000000
theorem wo_bd {D : rD} (ok : rd_ok D) (k : Int32) : -99 ≤ (sp_wo D k).toInt ∧ (sp_wo D k).toInt ≤ 99 := by
  unfold sp_wo
  split
  · decide
  · rename_i q
    obtain ⟨j, hj, rfl⟩ := (ni_ix (n := 6) (by decide)).mp ⟨fun z => q (Or.inl z), fun z => q (Or.inr z)⟩
    rw [nI_clamp (by omega)]; exact ok.2.2.1 j hj
theorem ex_bd {D : rD} (ok : rd_ok D) (k m : Int32) : -99 ≤ (sp_xb D k m).toInt ∧ (sp_xb D k m).toInt ≤ 99 := by
  have w := wo_bd ok k
  unfold sp_xb
  split
  · exact w
  · split
    · rw [i32_neg (by omega)]; omega
    · decide
theorem lvd_bd {D : rD} (ok : rd_ok D) (k : Int32) : -198 ≤ (s_lvd D k).toInt ∧ (s_lvd D k).toInt ≤ 198 := by
  have w := wo_bd ok k
  have e := ex_bd ok k (sp_mo D k)
  unfold s_lvd sp_ex
  rw [i32_add (by omega) (by omega)]; omega
theorem idl_bd {D : rD} (ok : rd_ok D) (x : Int32) : 0 ≤ (s_idl D x (dH D)).toInt ∧ (s_idl D x (dH D)).toInt ≤ 108 := by
  have H := ok.1.2
  have := sumL_bd (f := fun q => if sp_de D x (nI q) = -1 then (sp_w D (rul D) q).toInt64 else 0) (a := 0) (b := 9) (n := dH D) (fun i _ => by
    show 0 ≤ (if sp_de D x (nI i) = -1 then (sp_w D (rul D) i).toInt64 else 0).toInt ∧ (if sp_de D x (nI i) = -1 then (sp_w D (rul D) i).toInt64 else 0).toInt ≤ 9
    split
    · rw [i_64]; exact sp_w_bd ok _ _
    · decide) (by decide) (by decide) (by omega) (by omega)
  unfold s_idl
  omega
theorem prm_big {D : rD} (ok : rd_ok D) (x k : Int32) : -9223372036854775808 < (s_idl D x (dH D) * (s_lvd D k).toInt64).toInt := by
  have a := idl_bd ok x
  have b := lvd_bd ok k
  have h1 : -21384 ≤ (s_idl D x (dH D)).toInt * (s_lvd D k).toInt := by
    have : (s_idl D x (dH D)).toInt * (-198) ≤ (s_idl D x (dH D)).toInt * (s_lvd D k).toInt := Int.mul_le_mul_of_nonneg_left b.1 a.1
    omega
  have h2 : (s_idl D x (dH D)).toInt * (s_lvd D k).toInt ≤ 21384 := by
    have : (s_idl D x (dH D)).toInt * (s_lvd D k).toInt ≤ (s_idl D x (dH D)).toInt * 198 := Int.mul_le_mul_of_nonneg_left b.2 a.1
    omega
  rw [i64_mul (by rw [i_64]; omega) (by rw [i_64]; omega), i_64]; omega
theorem in6 {x : Int32} : sp_in x 6 = true ↔ ¬ x < 0 ∧ x < 6 := by
  unfold sp_in
  rw [decide_eq_true_iff]
  exact and_congr nt_lt.symm Iff.rfl
theorem q9_promise {x1 x2 x3 u : Int32} (a : tc h z DD N C) (hq : ∀ h', ax_same cl_F h h' → Ret (some (.int (qv (z 0) DD x1 (-1000000) (s_prm x2 x3 u)))) h') : mX9_promise g [.ref 0, .int x1, .int x2, .int x3, .int u] h Ret := by
  have z2 := a.2.2.2.2.1 0 (by decide)
  refine uX9_promise (fun A hA => vX9_promise_0 hA ⟨a.1.1, q_begun a (fun q => Or.inr ⟨rfl, ?_⟩) (fun k hk ex ok h' hs xs hc => Or.inl ⟨_, rfl, hc.1.1.1, c_hasPerson hc.1 ⟨_, rfl, fun q1 => ?_, fun q1 => ⟨fun q2 => ?_, fun q2 => ⟨fun q3 => ?_, fun q3 => ?_⟩⟩⟩⟩)⟩)
  · have := hq h sm_rf; rwa [qv_no q] at this
  · have hv := hq h' hs
    rw [qv_yes z2 hk ex] at hv; unfold s_prm at hv
    rw [if_neg (fun w => by rw [b2i_0.mp q1] at w; exact absurd w.1 (by decide))] at hv; exact hv
  · have hv := hq h' hs
    rw [qv_yes z2 hk ex] at hv; unfold s_prm at hv
    rw [if_neg (fun w => (in6.mp w.2).1 q2)] at hv; exact hv
  · have hv := hq h' hs
    rw [qv_yes z2 hk ex] at hv; unfold s_prm at hv
    rw [if_pos ⟨b2i_n0.mp q1, in6.mpr ⟨q2, q3⟩⟩] at hv
    have H12 := ok.1.2
    have e5 := hc.1.2.2.1.1
    have key : ∀ n i : Nat, i + n = dH (DD k) → ∀ o9 : Option Value, A (40, [some (.ref 0), some (.int x1), some (.int x2), some (.int x3), some (.int u), some (.ref (6 + 14 * k)), some (.long (s_idl (DD k) x2 i)), none, some (.int (nI i)), o9], [], h', 0, 0) := by
      intro n
      induction n with
      | zero =>
        intro i hi o9
        refine vX9_promise_40 hA ⟨hc.1.1.1, fun _ => ⟨hc.1.1.1, c_worthOf hc.1 ⟨_, rfl, hc.1.1.1, c_extraOf hc.1 ⟨_, rfl, xs.1, _, xs.2.1.2.2.2.2.1, hc.2.2.1.1, ?_⟩⟩⟩, fun q => ?_⟩
        · rw [hc.2.2.2.2.2.1, show i = dH (DD k) by omega]
          exact c_side (prm_big ok x2 x3) (t_pos ok) ⟨_, rfl, hv⟩
        · rw [e5] at q; exact absurd (nI_le (by omega) (by omega)) q
      | succ n ih =>
        intro i hi o9
        refine vX9_promise_40 hA ⟨hc.1.1.1, fun q => ?_, fun _ => ⟨hc.1.1.1, c_deedAt hc.1 ⟨_, rfl, fun q => ?_, fun q => ⟨xs.1, _, xs.2.1.2.2.2.2.1, hc.2.2.1.1, _, hc.2.2.1.2.1, by rw [hc.2.2.1.2.2], by rw [hc.2.2.1.2.2]; exact vp_in_nI (by omega) (by decide), ?_⟩⟩⟩⟩
        · rw [e5] at q; exact absurd q (nI_ge (by omega) (by omega))
        · have := ih (i + 1) (by omega) o9
          unfold s_idl at this ⊢
          rw [show sumL (fun q => if sp_de (DD k) x2 (nI q) = -1 then (sp_w (DD k) (rul (DD k)) q).toInt64 else 0) (i + 1) = sumL (fun q => if sp_de (DD k) x2 (nI q) = -1 then (sp_w (DD k) (rul (DD k)) q).toInt64 else 0) i + (if sp_de (DD k) x2 (nI i) = -1 then (sp_w (DD k) (rul (DD k)) i).toInt64 else 0) from rfl, if_neg q] at this
          rw [nI_succ] at this
          exact this
        · have := ih (i + 1) (by omega) o9
          unfold s_idl at this ⊢
          rw [show sumL (fun q => if sp_de (DD k) x2 (nI q) = -1 then (sp_w (DD k) (rul (DD k)) q).toInt64 else 0) (i + 1) = sumL (fun q => if sp_de (DD k) x2 (nI q) = -1 then (sp_w (DD k) (rul (DD k)) q).toInt64 else 0) i + (if sp_de (DD k) x2 (nI i) = -1 then (sp_w (DD k) (rul (DD k)) i).toInt64 else 0) from rfl, if_pos q] at this
          rw [nI_succ] at this
          rw [nI_clamp (by omega), hc.2.2.2.2.2.2 i (by omega)]
          exact this
    exact key (dH (DD k)) 0 (by omega) none
  · have hv := hq h' hs
    rw [qv_yes z2 hk ex] at hv; unfold s_prm at hv
    rw [if_neg (fun w => q3 (in6.mp w.2).2)] at hv; exact hv
theorem lvd_ti {D : rD} (ok : rd_ok D) {k : Nat} (hk : k < 6) : (s_lvd D (nI k)).toInt64 = (dwo D k).toInt64 * (sp_ti (dmo D k) 2).toInt64 := by
  have w := ok.2.2.1 k hk
  refine l_inj ?_
  unfold s_lvd sp_ex sp_xb sp_ti
  rw [wo_nI hk, mo_nI hk]
  rcases ok.2.2.2.1 k hk with e | e | e
  · rw [e, if_pos rfl, if_pos rfl, i64_mul (by rw [i_64, i_64, show (2 : Int32).toInt = 2 from rfl]; omega) (by rw [i_64, i_64, show (2 : Int32).toInt = 2 from rfl]; omega), i_64, i_64, i_64, i32_add (by omega) (by omega), show (2 : Int32).toInt = 2 from rfl]; omega
  · rw [e, if_neg (by decide), if_neg (by decide), if_neg (by decide), if_pos rfl, Int32.add_zero, i64_mul (by rw [i_64, i_64, show (1 : Int32).toInt = 1 from rfl]; omega) (by rw [i_64, i_64, show (1 : Int32).toInt = 1 from rfl]; omega), i_64, i_64, show (1 : Int32).toInt = 1 from rfl]; omega
  · rw [e, if_neg (by decide), if_pos rfl, if_neg (by decide), if_neg (by decide), Int32.add_right_neg]
    exact (congrArg Int64.toInt (Int64.mul_zero (a := (dwo D k).toInt64))).symm
theorem sumL_mul {f : Nat → Int64} {c : Int64} : ∀ n, sumL f n * c = sumL (fun q => f q * c) n
  | 0 => Int64.zero_mul
  | n + 1 => by show (sumL f n + f n) * c = sumL (fun q => f q * c) n + f n * c; rw [Int64.add_mul, sumL_mul n]
theorem q10_promise {x1 x2 x3 u : Int32} (a : tc h z DD N C) (hq : ∀ h', ax_same md_F h h' → Ret (some (.int (qv (z 0) DD x1 (-1000000) (s_prm x2 x3 u)))) h') : mX10_promise g [.ref 77, .int x1, .int x2, .int x3, .int u] h Ret := by
  refine uX10_promise (fun A hA => vX10_promise_0 hA ⟨a.2.1.1, ?_⟩)
  intro h1
  refine ⟨a.2.1.1, q_one (f := s_prm x2 x3 u) (d := -1000000) a hq (fun D e => by unfold s_prm; rw [if_neg (fun w => by rw [e] at w; exact absurd w.1 (by decide))]) (fun h' r => ⟨_, rfl, fun _ => r, fun q => absurd rfl q⟩) (fun k p hk ok hp ep h' hm hr => ⟨_, rfl, fun q => absurd q (by decide), fun _ => c_min ⟨_, rfl, fun q => ?_, fun q => ?_⟩⟩)⟩
  · have hv := hr h' sm_rf
    have mb := hm.1.1
    have H12 := ok.1.2
    have P6 := ok.2.1
    subst ep
    obtain ⟨κ, hκ0, hκ, rfl⟩ := i_rng (a := 0) (b := 5) (by decide) (by decide) (of_decide_eq_true (b2i_n0.mp q)).1 (of_decide_eq_true (b2i_n0.mp q)).2
    unfold s_prm at hv
    rw [if_pos ⟨sp_in_nI (by omega) hp, sp_in_nI (by decide) (show κ < 6 by omega)⟩] at hv
    have eq : s_idl (DD k) (nI p) (dH (DD k)) * (s_lvd (DD k) (nI κ)).toInt64 = sumL (fun q => if dde (DD k) p q = -1 then (sp_w (DD k) (rul (DD k)) q).toInt64 * (dwo (DD k) κ).toInt64 * (sp_ti (dmo (DD k) κ) 2).toInt64 else 0) (dH (DD k)) := by
      unfold s_idl
      rw [sumL_mul, lvd_ti ok (by omega)]
      refine sumL_congr (fun i hi => ?_)
      rw [de_nI hp hi P6 H12]
      split
      · rw [Int64.mul_assoc]
      · exact Int64.zero_mul
    have big := prm_big ok (nI p) (nI κ)
    rw [eq] at hv big
    obtain ⟨e1, e2⟩ := mo_we mb.1
    obtain ⟨f1, f2⟩ := mo_de mb.1
    have key : ∀ n i : Nat, i + n = dH (DD k) → A (33, [some (.ref 77), some (.int x1), some (.int (nI p)), some (.int (nI κ)), some (.int u), some (.long (sumL (fun q => if dde (DD k) p q = -1 then (sp_w (DD k) (rul (DD k)) q).toInt64 * (dwo (DD k) κ).toInt64 * (sp_ti (dmo (DD k) κ) 2).toInt64 else 0) i)), none, some (.int (nI i))], [], h', 0, 0) := by
      intro n
      induction n with
      | zero =>
        intro i hi
        refine vX10_promise_33 hA ⟨mb.1.1, fun _ => ⟨mb.1.1, ?_⟩, fun q => ?_⟩
        · rw [hm.2.2.1, show i = dH (DD k) by omega]
          exact c_part big (t_pos ok) ⟨_, rfl, hv⟩
        · rw [mb.2.2.2.2.1] at q; exact absurd (nI_le (by omega) (by omega)) q
      | succ n ih =>
        intro i hi
        have ei : (12 : Int32) * nI p + nI i = nI (12 * p + i) := ni_21
        refine vX10_promise_33 hA ⟨mb.1.1, fun q => ?_, fun _ => ⟨mb.1.1, _, f1, by rw [f2], by rw [ei, f2]; exact vp_in_nI (by omega) (by decide), fun q => ⟨mb.1.1, _, e1, by rw [e2], by rw [e2]; exact vp_in_nI (by omega) (by decide), mb.1.1, c_mof (i := 8 + κ) mb.1 mb.2.1 mb.2.2.2.1 (by omega) (ni_c 8 κ) ⟨_, rfl, mb.1.1, c_mof (i := 14 + κ) mb.1 mb.2.1 mb.2.2.2.1 (by omega) (ni_c 14 κ) ⟨_, rfl, c_mtimes ⟨_, rfl, ?_⟩⟩⟩⟩, fun q => ?_⟩⟩
        · rw [mb.2.2.2.2.1] at q; exact absurd q (nI_ge (by omega) (by omega))
        · intro z22
          have := ih (i + 1) (by omega)
          rw [ei, nI_clamp (by omega), hm.1.2.2.1 p i hp (by omega)] at q
          rw [show sumL (fun q => if dde (DD k) p q = -1 then (sp_w (DD k) (rul (DD k)) q).toInt64 * (dwo (DD k) κ).toInt64 * (sp_ti (dmo (DD k) κ) 2).toInt64 else 0) (i + 1) = sumL (fun q => if dde (DD k) p q = -1 then (sp_w (DD k) (rul (DD k)) q).toInt64 * (dwo (DD k) κ).toInt64 * (sp_ti (dmo (DD k) κ) 2).toInt64 else 0) i + (if dde (DD k) p i = -1 then (sp_w (DD k) (rul (DD k)) i).toInt64 * (dwo (DD k) κ).toInt64 * (sp_ti (dmo (DD k) κ) 2).toInt64 else 0) from rfl, if_pos q, nI_succ] at this
          show A (33, [some (.ref 77), some (.int x1), some (.int (nI p)), some (.int (nI κ)), some (.int u), some (.long (_ + (ax_i h' 93 (nI i).toNatClampNeg).toInt64 * (ax_i h' 83 (164 * k + (8 + κ))).toInt64 * (sp_ti (ax_i h' 83 (164 * k + (14 + κ))) 2).toInt64)), none, some (.int (nI i + 1))], [], h', 0, 0)
          rw [nI_clamp (by omega), hm.2.1 i (by omega), ← Nat.add_assoc, ← Nat.add_assoc, mb.2.2.1.2.2.2.2.1 κ (by omega), mb.2.2.1.2.2.2.2.2.1 κ (by omega)]
          exact this
        · have := ih (i + 1) (by omega)
          rw [ei, nI_clamp (by omega), hm.1.2.2.1 p i hp (by omega)] at q
          rw [show sumL (fun q => if dde (DD k) p q = -1 then (sp_w (DD k) (rul (DD k)) q).toInt64 * (dwo (DD k) κ).toInt64 * (sp_ti (dmo (DD k) κ) 2).toInt64 else 0) (i + 1) = sumL (fun q => if dde (DD k) p q = -1 then (sp_w (DD k) (rul (DD k)) q).toInt64 * (dwo (DD k) κ).toInt64 * (sp_ti (dmo (DD k) κ) 2).toInt64 else 0) i + (if dde (DD k) p i = -1 then (sp_w (DD k) (rul (DD k)) i).toInt64 * (dwo (DD k) κ).toInt64 * (sp_ti (dmo (DD k) κ) 2).toInt64 else 0) from rfl, if_neg q, nI_succ] at this
          exact this
    exact key (dH (DD k)) 0 (by omega)
  · have hv := hr h' sm_rf
    unfold s_prm at hv
    rw [if_neg (fun w => of_decide_eq_false (b2i_0.mp q) ⟨nt_lt.mp (in6.mp w.2).1, by have := (in6.mp w.2).2; rw [i_lt] at this; rw [i_le]; change x3.toInt < 6 at this; change x3.toInt ≤ 5; omega⟩)] at hv
    exact hv
theorem g_promise (a : IV h S Im tp) (b : 103 ≤ h.1 ∧ h.1 ≤ B) (x1 x2 x3 x4 : Int32) : prI (mX9_promise g) (mX10_promise g) [.ref 0, .int x1, .int x2, .int x3, .int x4] [.ref 77, .int x1, .int x2, .int x3, .int x4] h (inv B) := pr_q _ a b (fun Ret k => q9_promise (iv_tc a) k) (fun h1 Ret a1 k => q10_promise (iv_tc a1) k)
end
