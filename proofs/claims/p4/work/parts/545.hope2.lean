section
variable {g : ax_G} {Ret : Option Value → ax_H → Prop} {h : ax_H} {z : Nat → Nat} {DD : Nat → rD} {N : Nat → Nat → Nat} {C : Nat → Nat → Nat → Nat → Int32} {S : sT} {Im : Nat → Option sT} {tp : Nat → Nat} {B : Nat}
/-- all people's totals together -/
def pT (D : rD) : Nat → Int
  | 0 => 1
  | n + 1 => pT D n * (sp_t D (nI n)).toInt
theorem pT_bd {D : rD} (ok : rd_ok D) : ∀ n, 1 ≤ pT D n ∧ pT D n ≤ 108 ^ n
  | 0 => ⟨Int.le_refl _, Int.le_refl _⟩
  | n + 1 => by
    have a := pT_bd ok n
    have b := sp_t_bd ok (nI n)
    show 1 ≤ pT D n * (sp_t D (nI n)).toInt ∧ pT D n * (sp_t D (nI n)).toInt ≤ 108 ^ (n + 1)
    refine ⟨Int.mul_pos (by omega) b.1, ?_⟩
    rw [Int.pow_succ]
    exact Int.mul_le_mul a.2 b.2 (by omega) (by omega)
theorem pT_dvd {D : rD} : ∀ {n p : Nat}, p < n → (sp_t D (nI p)).toInt ∣ pT D n
  | 0, p, h => absurd h (Nat.not_lt_zero _)
  | n + 1, p, h => by
    show _ ∣ pT D n * (sp_t D (nI n)).toInt
    by_cases e : p = n
    · rw [e]; exact Int.dvd_mul_left _ _
    · exact Int.dvd_trans (pT_dvd (by omega)) (Int.dvd_mul_right _ _)
def sL (D : rD) : Int := (sp_t D (rul D)).toInt * pT D (dP D)
theorem sL_bd {D : rD} (ok : rd_ok D) : 0 < sL D ∧ sL D ≤ 171382426877952 := by
  have a := pT_bd ok (dP D)
  have b := sp_t_bd ok (rul D)
  have c := p108 (dP D) ok.2.1
  unfold sL
  refine ⟨Int.mul_pos b.1 (by omega), ?_⟩
  have := Int.mul_le_mul b.2 (Int.le_trans a.2 c) (by omega) (by decide)
  omega
theorem sNn_mono {W : Nat → Nat} : ∀ {a b : Nat}, a ≤ b → sNn W a ≤ sNn W b := by
  intro a b hab
  induction b with
  | zero => rw [show a = 0 by omega]; exact Nat.le_refl _
  | succ b ih =>
    rcases Nat.lt_or_ge b a with q | q
    · rw [show a = b + 1 by omega]; exact Nat.le_refl _
    · exact Nat.le_trans (ih q) (Nat.le_add_right _ _)
/-- no sum of such terms is too big -/
theorem s_big {D : rD} {t e : Int} (ok : rd_ok D) (ht : 0 < t) (he : e ≤ 42876 * t) : e * sL D < 9223372036854775807 * t := by
  have a := sL_bd ok
  have h1 : e * sL D ≤ 42876 * t * sL D := Int.mul_le_mul_of_nonneg_right he (Int.le_of_lt a.1)
  have h2 : 42876 * t * sL D = t * (42876 * sL D) := by rw [Int.mul_comm 42876 t, Int.mul_assoc]
  have h3 : t * (42876 * sL D) < t * 9223372036854775807 := Int.mul_lt_mul_of_pos_left (by omega) ht
  rw [Int.mul_comm 9223372036854775807 t]
  omega
theorem c_expected {x1 x2 x3 x4 : Int32} (a : tc h z DD N C) (h0 : ∀ h', ax_same cl_F h h' → Ret (some (.int 0)) h') (h1 : ∀ h', ax_same cl_F h h' → Ret (some (.int 1)) h') : mX9_expected g [.ref 0, .int x1, .int x2, .int x3, .int x4] h Ret := by
  refine uX9_expected (fun A hA => vX9_expected_0 hA ⟨a.1.1, q_begun a (fun q => Or.inr ⟨rfl, Or.inl rfl, h0 h sm_rf⟩) (fun k hk ex ok h' hs xs hc => Or.inl ⟨_, rfl, hc.1.1.1, c_hasPerson hc.1 ⟨_, rfl, fun _ => ⟨Or.inl rfl, h0 h' hs⟩, fun qp => ⟨fun _ => ⟨Or.inl rfl, h0 h' hs⟩, fun _ => ⟨fun _ => ⟨xs.1, _, xs.2.1.2.2.2.2.2.2.2.2, xs.2.2.2.2.2, c_put76 xs.2.2.2.2.2 (by decide) (by decide) (fun h2 s2 e0 e1 => ⟨rfl, ?_⟩)⟩, fun _ => ⟨Or.inl rfl, h0 h' hs⟩⟩⟩⟩⟩)⟩)
  have H12 := ok.1.2
  have P6 := ok.2.1
  have k2 : k < 2 := by have := a.2.2.2.2.1 0 (by decide); omega
  obtain ⟨p, hp, rfl⟩ := sp_in_ix (by omega) (b2i_n0.mp qp)
  obtain ⟨W, hW, hT⟩ := w_sum ok (rul (DD k))
  have fw : sp_w (DD k) (rul (DD k)) = fun q => nI (W q) := funext (fun q => (hW q).1)
  have xs2 := xs_st_same s2 xs
  have rc2 := rc_at_same s2 (fun j hj q => by omega) hc.1
  have co2 := co_at_same s2 (by decide) hc.2.1
  have od2 := od_at_same s2 (by decide) hc.2.2
  have cs2 : ax_same cl_F h h2 := sm_tr hs (sm_mono s2 (fun x e => by unfold cl_F; omega))
  have hb0 : hB 999 (dP (DD k)) (dpu (DD k)) := fun p hp => by have := ok.2.2.2.2.1 p hp; omega
  have cl53 : ∀ h3 h4, ax_same (fun a => a = 53) h3 h4 → ax_same cl_F h3 h4 := fun h3 h4 s => sm_mono s (fun x e => by unfold cl_F; omega)
  have cl76 : ∀ h3 h4, ax_same (fun a => a = 76) h3 h4 → ax_same cl_F h3 h4 := fun h3 h4 s => sm_mono s (fun x e => by unfold cl_F; omega)
  refine ⟨fun _ => ⟨fun _ => ?_, fun _ => ⟨xs2.1, _, xs2.2.1.2.2.2.2.2.2.2.2, xs2.1, _, xs2.2.1.2.2.2.2.1, xs2.1, c_nextDay (W := W) (b := 2286) ok (Or.inl rfl) xs2 rc2 (by omega) co2 (by rw [← fw]; exact od2) (fun q => (hW q).2) hp (by decide) (by decide) (fun q hq => hB_live ok (by decide) hq hb0) (fun v h3 s3 c3 b3 => ⟨_, rfl, ?_⟩)⟩⟩, fun _ => ⟨xs2.1, _, xs2.2.1.2.2.2.2.2.2.2.2, xs2.1, _, xs2.2.1.2.2.2.1, co2.1.1, c_measure co2 ⟨_, rfl, xs2.2.2.2.2.2, c_put76 xs2.2.2.2.2.2 (by rw [i_64]; have := i_bd (sp_me (dP (DD k)) (dpu (DD k)) (nI p) x4); omega) (by decide) (fun h3 s3 _ _ => ⟨rfl, Or.inr rfl, h1 h3 (sm_tr cs2 (cl76 _ _ s3))⟩)⟩⟩⟩
  · have T0 : (sp_t (DD k) (rul (DD k))).toInt = (sNn W (dH (DD k)) : Int) := by
      have tb1 := sp_t_bd ok (rul (DD k))
      have s9 : ∀ n, sNn W n ≤ 9 * n := fun n => by
        induction n with
        | zero => exact Nat.le_refl _
        | succ n ih => show sNn W n + W n ≤ 9 * (n + 1); have := (hW n).2; omega
      rw [hT, nI_toInt (by have := s9 (dH (DD k)); omega)]
    have tb0 := sp_t_bd ok (rul (DD k))
    have L0 := sL_bd ok
    have key : ∀ f i : Nat, i + f = dH (DD k) → ∀ hh, ax_same cl_F h hh → co_at hh 52 (dP (DD k)) (dH (DD k)) (dpu (DD k)) (sp_vl (DD k)) → od_at hh 55 (dH (DD k)) (sp_w (DD k) (rul (DD k))) (sp_t (DD k) (rul (DD k))) → fOk (ax_l hh 76 0) (ax_l hh 76 1) (sL (DD k)) (sp_t (DD k) (rul (DD k))).toInt (3573 * (sNn W i : Int)) → ∀ o7 o8 : Option Value, A (106, [some (.ref 0), some (.int x1), some (.int (nI p)), some (.int x3), some (.int x4), some (.ref (6 + 14 * k)), some (.int (nI i)), o7, o8], [], hh, 0, 0) := by
      intro f
      induction f with
      | zero =>
        intro i hi hh s co od F o7 o8
        have rc := (tc_cl s a).2.2.1.2.2.1 k hk
        refine vX9_expected_106 hA ⟨rc.1.1, fun _ => ⟨Or.inr rfl, h1 hh s⟩, fun q => ?_⟩
        have := rc.2.2.1.1
        rw [show ax_i hh (6 + 14 * k) 5 = nI (dH (DD k)) from this] at q; exact absurd (nI_le (by omega) (by omega)) q
      | succ f ih =>
        intro i hi hh s co od F o7 o8
        have t1 := tc_cl s a
        have rc : rc_at hh (6 + 14 * k) (DD k) := t1.2.2.1.2.2.1 k hk
        have x1' := t1.1
        refine vX9_expected_106 hA ⟨rc.1.1, fun q => ?_, fun _ => ⟨x1'.1, _, x1'.2.1.2.2.2.1, co.1.1, c_live co (fun h3 s3 c3 => ⟨rfl, ?_⟩)⟩⟩
        · rw [rc.2.2.1.1] at q; exact absurd q (nI_ge (by omega) (by omega))
        · have cs3 := sm_tr s (cl53 _ _ s3)
          have t3 := tc_cl cs3 a
          have x3' := t3.1
          have rc3 : rc_at h3 (6 + 14 * k) (DD k) := t3.2.2.1.2.2.1 k hk
          refine ⟨x3'.1, _, x3'.2.1.2.2.2.2.2.1, x3'.1, _, x3'.2.1.2.2.2.1, c3.1.1, c_poorest c3 ⟨_, rfl, x3'.2.2.2.2.1.1, c_weigh x3'.2.2.2.2.1 rc3 (fun j hj q => by unfold od_F at q; omega) (fun h4 s4 o4 => ⟨rfl, ?_⟩)⟩⟩
          have s4' : ax_same cl_F h3 h4 := sm_mono s4 (fun x e => by unfold od_F at e; unfold cl_F; omega)
          have cs4 := sm_tr cs3 s4'
          have t4 := tc_cl cs4 a
          have x4' := t4.1
          have rc4 : rc_at h4 (6 + 14 * k) (DD k) := t4.2.2.1.2.2.1 k hk
          have c4 := co_at_same s4 (by refine ⟨?_, ?_, ?_⟩ <;> (intro q; unfold od_F at q; omega)) c3
          obtain ⟨pp, hpp, epp⟩ := (po_ix (P := dP (DD k)) (pu := fun p => dpu (DD k) p + sp_br (dP (DD k)) (dH (DD k)) (sp_vl (DD k)) (nI p) (nI i))).resolve_left (fun e => by unfold sp_po at e; rw [if_neg (by omega)] at e; exact nI_nm1 (by have := poo_le (fun p => dpu (DD k) p + sp_br (dP (DD k)) (dH (DD k)) (sp_vl (DD k)) (nI p) (nI i)) (dP (DD k) - 1); omega) e)
          rw [epp] at o4
          obtain ⟨W2, hW2, hT2⟩ := w_sum ok (nI pp)
          have fw2 : sp_w (DD k) (nI pp) = fun q => nI (W2 q) := funext (fun q => (hW2 q).1)
          refine ⟨x4'.1, _, x4'.2.1.2.2.2.2.2.1, x4'.1, c_nextDay (W := W2) (b := 3573) ok (Or.inr rfl) x4' rc4 (by omega) c4 (by rw [← fw2]; exact o4) (fun q => (hW2 q).2) hp (by decide) (by decide) (fun q hq => hB_live ok (by decide) hq (hB_live ok (by decide) (by omega) hb0)) (fun v h5 s5 c5 b5 => ⟨_, rfl, ?_⟩)⟩
          have cs5 := sm_tr cs4 (cl53 _ _ s5)
          have x5' := (tc_cl cs5 a).1
          refine ⟨x5'.1, _, x5'.2.1.2.2.2.1, c5.1.1, c_unlive c5 (fun h6 s6 c6 => ⟨rfl, ?_⟩)⟩
          have cs6 := sm_tr cs5 (cl53 _ _ s6)
          have x6' := (tc_cl cs6 a).1
          have ef : (fun p => dpu (DD k) p + sp_br (dP (DD k)) (dH (DD k)) (sp_vl (DD k)) (nI p) (nI i) - sp_br (dP (DD k)) (dH (DD k)) (sp_vl (DD k)) (nI p) (nI i)) = dpu (DD k) := funext (fun p => Int32.add_sub_cancel _ _)
          have co6 : co_at h6 52 (dP (DD k)) (dH (DD k)) (dpu (DD k)) (sp_vl (DD k)) := by rw [← ef]; exact c6
          have od6 : od_at h6 55 (dH (DD k)) (sp_w (DD k) (rul (DD k))) (sp_t (DD k) (rul (DD k))) := od_at_same s6 (by decide) (od_at_same s5 (by decide) (od_at_same s4 (by refine ⟨?_, ?_⟩ <;> (intro q; unfold od_F at q; omega)) (od_at_same s3 (by decide) od)))
          have o6 := od_at_same s6 (by decide) (od_at_same s5 (by decide) o4)
          have l6 : ∀ j, ax_l h6 76 j = ax_l hh 76 j := fun j => by rw [(s6.2.2.2 76 (by decide)).2, (s5.2.2.2 76 (by decide)).2, (s4.2.2.2 76 (by unfold od_F; decide)).2, (s3.2.2.2 76 (by decide)).2]
          refine ⟨x6'.1, _, x6'.2.1.2.2.2.2.2.2.2.2, x6'.1, _, x6'.2.1.2.2.2.2.1, od6.1.1, _, od6.1.2.1, by rw [od6.1.2.2], by rw [od6.1.2.2]; exact vp_in_nI (by omega) (by decide), x6'.1, _, x6'.2.1.2.2.2.2.1, od6.1.1, x6'.1, _, x6'.2.1.2.2.2.2.2.1, o6.1.1, x6'.2.2.2.2.2, ?_⟩
          rw [nI_clamp (by omega), od6.2.2.2.2 i (by omega), od6.2.2.2.1, o6.2.2.2.1]
          have tb2 := sp_t_bd ok (nI pp)
          have s92 : ∀ n, sNn W2 n ≤ 9 * n := fun n => by
            induction n with
            | zero => exact Nat.le_refl _
            | succ n ih => show sNn W2 n + W2 n ≤ 9 * (n + 1); have := (hW2 n).2; omega
          have T2 : (sp_t (DD k) (nI pp)).toInt = (sNn W2 (dH (DD k)) : Int) := by rw [hT2, nI_toInt (by have := s92 (dH (DD k)); omega)]
          have bb : ((sp_t (DD k) (rul (DD k))).toInt64 * (sp_t (DD k) (nI pp)).toInt64).toInt = (sp_t (DD k) (rul (DD k))).toInt * (sp_t (DD k) (nI pp)).toInt := by
            have bz := abs_mul (a := 108) (b := 108) (x := (sp_t (DD k) (rul (DD k))).toInt) (y := (sp_t (DD k) (nI pp)).toInt) (by decide) (by decide) (by omega) (by omega)
            rw [i64_mul (by rw [i_64, i_64]; omega) (by rw [i_64, i_64]; omega), i_64, i_64]
          have w9 := (hW i).2
          have eW : (sp_w (DD k) (rul (DD k)) i).toInt = (W i : Int) := by rw [(hW i).1, nI_toInt (by omega)]
          have sm1 : sNn W (i + 1) ≤ sNn W (dH (DD k)) := sNn_mono (by omega)
          have sm2 : sNn W (i + 1) = sNn W i + W i := rfl
          have S2 : sNn W2 (dH (DD k)) ≤ 108 := by have := s92 (dH (DD k)); omega
          refine c_add76 (L := sL (DD k)) (τ := (sp_t (DD k) (rul (DD k))).toInt) (c := 3573 * (sNn W i : Int)) (d := 3573 * (W i : Int)) x6'.2.2.2.2.2 L0.1 (by omega) tb0.1 (by omega) (by omega) (s_big ok tb0.1 (by rw [T0]; omega)) (by rw [l6, l6]; exact F) (by rw [bb]; exact Int.mul_pos tb0.1 tb2.1) (by rw [bb]; exact Int.mul_dvd_mul_left _ (pT_dvd hpp)) ?_ (fun h7 s7 f7 => ⟨rfl, ?_⟩)
          · have hm : (W i : Int) * (3573 * (sNn W2 (dH (DD k)) : Int)) ≤ 9 * (3573 * (sNn W2 (dH (DD k)) : Int)) := Int.mul_le_mul_of_nonneg_right (by omega) (by omega)
            have m := bL_mul (a := (W i : Int)) (b := 3573 * (sNn W2 (dH (DD k)) : Int)) (by omega) (by omega) (bL_32 (x := sp_w (DD k) (rul (DD k)) i) (by rw [eW]; omega)) b5 (by omega)
            unfold bL at m
            have m2 : (((sp_w (DD k) (rul (DD k)) i).toInt64 * v).toInt.natAbs : Int) ≤ (W i : Int) * (3573 * (sNn W2 (dH (DD k)) : Int)) := by omega
            have m3 := Int.mul_le_mul_of_nonneg_right m2 (Int.le_of_lt tb0.1)
            rw [bb, T2]
            refine Int.le_trans m3 (Int.le_of_eq ?_)
            ac_rfl
          · rw [← nI_succ]
            refine ih (i + 1) (by omega) h7 (sm_tr cs6 (cl76 _ _ s7)) (co_at_same s7 (by decide) co6) (od_at_same s7 (by decide) od6) ?_ _ _
            rw [show 3573 * (sNn W (i + 1) : Int) = 3573 * (sNn W i : Int) + 3573 * (W i : Int) from by rw [sm2]; omega]
            exact f7
    refine key (dH (DD k)) 0 (by omega) h2 cs2 co2 od2 ?_ _ _
    rw [e0, e1, show (0 : Int64) / gL 0 1 = 0 from by decide +kernel, show (1 : Int64) / gL 0 1 = 1 from by decide +kernel]
    refine ⟨by decide, ⟨sL (DD k), by rw [show (1 : Int64).toInt = 1 from rfl, Int.one_mul]⟩, ?_⟩
    show (0 : Int) * _ ≤ 3573 * (0 : Int) * _
    rw [Int.zero_mul, Int.mul_zero, Int.zero_mul]
    exact Int.le_refl _
  · have xs3 := xs_st_same s3 xs2
    have od3 := od_at_same s3 (by decide) od2
    have s9 : ∀ n, sNn W n ≤ 9 * n := fun n => by
      induction n with
      | zero => exact Nat.le_refl _
      | succ n ih => show sNn W n + W n ≤ 9 * (n + 1); have := (hW n).2; omega
    have s12 := s9 (dH (DD k))
    refine ⟨xs3.1, _, xs3.2.1.2.2.2.2.1, od3.1.1, xs3.2.2.2.2.2, ?_⟩
    rw [od3.2.2.2.1]
    exact c_put76 xs3.2.2.2.2.2 (by unfold bL at b3; omega) (t_pos ok) (fun h4 s4 _ _ => ⟨rfl, Or.inr rfl, h1 h4 (sm_tr (sm_tr cs2 (cl53 _ _ s3)) (cl76 _ _ s4))⟩)
theorem t9_hope {x1 x2 x3 x4 : Int32} (a : tc h z DD N C) (hq : ∀ (v : Int64) h', ax_same cl_F h h' → Ret (some (.long v)) h') : mX9_hope g [.ref 0, .int x1, .int x2, .int x3, .int x4] h Ret := by
  refine eX9_hope ⟨a.1.1, c_expected a (fun h2 s2 => ⟨_, rfl, fun _ => hq _ h2 s2, fun q => absurd rfl q⟩) (fun h2 s2 => ⟨_, rfl, fun q => absurd q (by decide), fun _ => ?_⟩)⟩
  have xs := (tc_cl s2 a).1
  exact ⟨xs.1, _, xs.2.1.2.2.2.2.2.2.2.2, xs.2.2.2.2.2, eX1_sideOf ⟨fun _ => ⟨xs.2.2.2.2.2, _, rfl, hq _ h2 s2⟩, fun _ => ⟨xs.2.2.2.2.2, _, rfl, hq _ h2 s2⟩⟩⟩
theorem t9_doom {x1 x2 x3 x4 : Int32} (a : tc h z DD N C) (hq : ∀ (v : Int64) h', ax_same cl_F h h' → Ret (some (.long v)) h') : mX9_doom g [.ref 0, .int x1, .int x2, .int x3, .int x4] h Ret := by
  refine eX9_doom ⟨a.1.1, c_expected a (fun h2 s2 => ⟨_, rfl, fun _ => hq _ h2 s2, fun q => absurd rfl q⟩) (fun h2 s2 => ⟨_, rfl, fun q => absurd q (by decide), fun _ => ?_⟩)⟩
  have xs := (tc_cl s2 a).1
  exact ⟨xs.1, _, xs.2.1.2.2.2.2.2.2.2.2, xs.2.2.2.2.2, eX1_sideOf ⟨fun _ => ⟨xs.2.2.2.2.2, _, rfl, hq _ h2 s2⟩, fun _ => ⟨xs.2.2.2.2.2, _, rfl, hq _ h2 s2⟩⟩⟩
end
