section
variable {g : ax_G} {Ret : Option Value → ax_H → Prop} {h : ax_H} {z : Nat → Nat} {DD : Nat → rD} {N : Nat → Nat → Nat} {C : Nat → Nat → Nat → Nat → Int32} {S : sT} {Im : Nat → Option sT} {tp : Nat → Nat} {B : Nat}
/-! HOPE and DOOM of the class, exactly -/
theorem c_add76E {x b : Int64} {L τ c d v w : Int} (s1 : (ax_s h 76).1 = 1) (hL : 0 < L) (hL2 : L < 9223372036854775808) (hτ : 0 < τ) (hc : 0 ≤ c) (hd : 0 ≤ d) (big : (c + d) * L < 9223372036854775807 * τ) (f : fOk (ax_l h 76 0) (ax_l h 76 1) L τ c) (b0 : 0 < b.toInt) (bL' : b.toInt ∣ L) (hx : x.toInt.natAbs * τ ≤ d * b.toInt) (eA : (ax_l h 76 0).toInt * L = v * (ax_l h 76 1).toInt) (ex : x.toInt * L = w * b.toInt) (hq : ∀ h', ax_same (fun x => x = 76) h h' → fOk (ax_l h' 76 0) (ax_l h' 76 1) L τ (c + d) → fXx (ax_l h' 76 0) (ax_l h' 76 1) (v + w) L → Ret none h') : mX1_add g [.ref 76, .long x, .long b] h Ret := by
  obtain ⟨n0, f1, bg⟩ := f_add hL hL2 hτ hc hd big f b0 bL' hx
  have fx := f_addX hL hL2 hτ hc hd big f b0 bL' hx eA ex
  refine eX1_add ⟨s1, c_divisor (by have := f.1; omega) b0 ⟨_, rfl, n0, s1, s1, n0, s1, s1, c_put76 s1 bg f1.1 (fun h2 s2 e0 e1 => ⟨rfl, hq h2 s2 ?_ ?_⟩)⟩⟩
  · rw [e0, e1]; exact f_put bg f1
  · rw [e0, e1]; exact fx_put bg f1.1 f1.2.1 fx
theorem c_nextDayE {o p r : Nat} {D : rD} {hv : Nat → Int32} {W : Nat → Nat} {t x : Int32} {b : Int} (ok : rd_ok D) (ho : o = 55 ∨ o = 57) (xs : xs_st h) (rc : rc_at h r D) (hr : r + 6 ≤ 52) (co : co_at h 52 (dP D) (dH D) hv (sp_vl D)) (od : od_at h o (dH D) (fun q => nI (W q)) t) (hW : ∀ q, W q ≤ 9) (hp : p < dP D) (b1 : 1 ≤ b) (b2 : b ≤ 100000) (hb : ∀ q, q < dH D → hB b (dP D) (fun p => hv p + sp_vl D p q)) (hq : ∀ v h', ax_same (fun a => a = 53) h h' → co_at h' 52 (dP D) (dH D) hv (sp_vl D) → bL (b * (sNn W (dH D) : Int)) v → v.toInt = sumI (fun r => (W r : Int) * (sp_me (dP D) (fun p => hv p + sp_vl D p r) (nI p) x).toInt) (dH D) → Ret (some (.long v)) h') : mX9_nextDay g [.ref 0, .ref r, .ref o, .int (nI p), .int x] h Ret := by
  have H12 := ok.1.2
  have s9 := sN_9 hW
  have bl : ∀ n : Nat, n ≤ 12 → b * (sNn W n : Int) ≤ 10800000 := fun n hn => by
    have h1 : (sNn W n : Int) ≤ 108 := by have := s9 n; omega
    have h2 : b * (sNn W n : Int) ≤ 100000 * (sNn W n : Int) := Int.mul_le_mul_of_nonneg_right b2 (by omega)
    omega
  refine uX9_nextDay (fun A hA => vX9_nextDay_0 hA ?_)
  have key : ∀ f i : Nat, i + f = dH D → ∀ hh, ax_same (fun a => a = 53) h hh → co_at hh 52 (dP D) (dH D) hv (sp_vl D) → ∀ x5 : Int64, bL (b * (sNn W i : Int)) x5 → x5.toInt = sumI (fun r => (W r : Int) * (sp_me (dP D) (fun p => hv p + sp_vl D p r) (nI p) x).toInt) i → A (6, [some (.ref 0), some (.ref r), some (.ref o), some (.int (nI p)), some (.int x), some (.long x5), none, some (.int (nI i))], [], hh, 0, 0) := by
    intro f
    induction f with
    | zero =>
      intro i hi hh s c x5 b5 e5
      have rc1 := rc_at_same s (fun j hj q => by omega) rc
      have ei : dH D = i := by omega
      refine vX9_nextDay_6 hA ⟨rc1.1.1, fun _ => hq _ hh s c (by rw [ei]; exact b5) (by rw [ei]; exact e5), fun q => ?_⟩
      rw [rc1.2.2.1.1] at q; exact absurd (nI_le (by omega) (by omega)) q
    | succ f ih =>
      intro i hi hh s c x5 b5 e5
      have rc1 := rc_at_same s (fun j hj q => by omega) rc
      have x1 := xs_st_same s xs
      have iH : i < dH D := by omega
      refine vX9_nextDay_6 hA ⟨rc1.1.1, fun q => ?_, fun _ => ⟨x1.1, _, x1.2.1.2.2.2.1, c.1.1, c_live c (fun h2 s2 c2' => ⟨rfl, ?_⟩)⟩⟩
      · rw [rc1.2.2.1.1] at q; exact absurd q (nI_ge (by omega) (by omega))
      · have c2 : co_at h2 52 (dP D) (dH D) (fun p => hv p + sp_vl D p i) (sp_vl D) := co_congr c2' (fun p hp => by rw [sp_br_in hp iH ok.2.1 ok.1.2])
        have x2 := xs_st_same s2 x1
        have od2 := od_at_same (sm_tr s s2) (by omega) od
        refine ⟨od2.1.1, _, od2.1.2.1, by rw [od2.1.2.2], by rw [od2.1.2.2]; exact vp_in_nI (by omega) (by decide), x2.1, _, x2.2.1.2.2.2.1, c2.1.1, c_measure c2 ⟨_, rfl, x2.1, _, x2.2.1.2.2.2.1, c2.1.1, c_unlive c2 (fun h3 s3 c3 => ⟨rfl, ?_⟩)⟩⟩
        rw [nI_clamp (by omega), od2.2.2.2.2 i (by omega), ← nI_succ]
        have c4 : co_at h3 52 (dP D) (dH D) hv (sp_vl D) := co_congr c3 (fun p hp => by rw [sp_br_in hp iH ok.2.1 ok.1.2]; exact Int32.add_sub_cancel _ _)
        have mb := me_bd (x := x) b1 ok.2.1 hp (hb i (by omega))
        have bi := bl i (by omega)
        have w9 := hW i
        have eW : (nI (W i)).toInt = (W i : Int) := nI_toInt (by omega)
        have mm : (W i : Int) * b ≤ 900000 := by have : (W i : Int) * b ≤ 9 * b := Int.mul_le_mul_of_nonneg_right (by omega) (by omega); omega
        have m1 := bL_mul (a := (W i : Int)) (b := b) (by omega) (by omega) (bL_32 (x := nI (W i)) (by rw [eW]; omega)) (bL_32 mb) (by omega)
        have ab := abs_mul (a := 9) (b := 100000) (x := (W i : Int)) (y := (sp_me (dP D) (fun p => hv p + sp_vl D p i) (nI p) x).toInt) (by decide) (by decide) (by omega) (by omega)
        have e1 : ((nI (W i)).toInt64 * (sp_me (dP D) (fun p => hv p + sp_vl D p i) (nI p) x).toInt64).toInt = (W i : Int) * (sp_me (dP D) (fun p => hv p + sp_vl D p i) (nI p) x).toInt := by
          rw [i64_mul (by rw [i_64, i_64, eW]; omega) (by rw [i_64, i_64, eW]; omega), i_64, i_64, eW]
        refine ih (i + 1) (by omega) h3 (sm_tr s (sm_tr s2 s3)) c4 _ ?_ ?_
        · refine bL_mono (bL_add b5 m1 (by omega)) ?_
          show b * (sNn W i : Int) + (W i : Int) * b ≤ b * ((sNn W i + W i : Nat) : Int)
          rw [Int.natCast_add, Int.mul_add, Int.mul_comm (W i : Int)]
          exact Int.le_refl _
        · show _ = sumI (fun r => (W r : Int) * (sp_me (dP D) (fun p => hv p + sp_vl D p r) (nI p) x).toInt) i + (W i : Int) * (sp_me (dP D) (fun p => hv p + sp_vl D p i) (nI p) x).toInt
          unfold bL at b5
          rw [i64_add (by rw [e1]; omega) (by rw [e1]; omega), e1, e5]
  exact key (dH D) 0 (by omega) h sm_rf co _ (by show bL (b * 0) 0; rw [Int.mul_zero]; unfold bL; decide) rfl
/-- the place: republic, person, days -/
def hG (z : Nat → Nat) (DD : Nat → rD) (x1 x2 x3 : Int32) (t : Nat × Nat × Nat) : Prop := t.1 < z 0 ∧ x1 = nI t.1 ∧ t.2.1 < dP (DD t.1) ∧ x2 = nI t.2.1 ∧ t.2.2 ≤ 2 ∧ x3 = nI t.2.2
def hVl (DD : Nat → rD) (b x4 : Int32) (t : Nat × Nat × Nat) : Int64 := hopeV (hvx (DD t.1) t.2.1 t.2.2 b) (sL (DD t.1)) x4
theorem hG_u {x1 x2 x3 : Int32} {t t' : Nat × Nat × Nat} (K : tk z DD N C) (a : hG z DD x1 x2 x3 t) (b : hG z DD x1 x2 x3 t') : t' = t := by
  obtain ⟨k, p, n⟩ := t
  obtain ⟨k', p', n'⟩ := t'
  obtain ⟨a1, a2, a3, a4, a5, a6⟩ := a
  obtain ⟨b1, b2, b3, b4, b5, b6⟩ := b
  change k < z 0 at a1
  change k' < z 0 at b1
  change p < dP (DD k) at a3
  change p' < dP (DD k') at b3
  change n ≤ 2 at a5
  change n' ≤ 2 at b5
  have z2 := K.1 0 (by decide)
  have P6 := (K.2.1 k a1).2.1
  have P6' := (K.2.1 k' b1).2.1
  have e1 : k' = k := (nI_eq (by omega) (by omega)).mp (b2.symm.trans a2)
  have e2 : p' = p := (nI_eq (by omega) (by omega)).mp (b4.symm.trans a4)
  have e3 : n' = n := (nI_eq (by omega) (by omega)).mp (b6.symm.trans a6)
  rw [e1, e2, e3]
theorem c_expectedE {x1 x2 x3 x4 : Int32} (a : tc h z DD N C) (h0 : ∀ h', ax_same cl_F h h' → (∀ t, ¬ hG z DD x1 x2 x3 t) → Ret (some (.int 0)) h') (h1 : ∀ t h', hG z DD x1 x2 x3 t → ax_same cl_F h h' → fXx (ax_l h' 76 0) (ax_l h' 76 1) (hvx (DD t.1) t.2.1 t.2.2 x4) (sL (DD t.1)) → Ret (some (.int 1)) h') : mX9_expected g [.ref 0, .int x1, .int x2, .int x3, .int x4] h Ret := by
  have z2 := a.2.2.2.2.1 0 (by decide)
  refine uX9_expected (fun A hA => vX9_expected_0 hA ⟨a.1.1, q_begun a (fun q => Or.inr ⟨rfl, Or.inl rfl, h0 h sm_rf (fun t G => in_no q z2 G.1 G.2.1)⟩) (fun k hk ex ok h' hs xs hc => Or.inl ⟨_, rfl, hc.1.1.1, c_hasPerson hc.1 ⟨_, rfl, fun qp => ⟨Or.inl rfl, h0 h' hs (fun t G => ?_)⟩, fun qp => ⟨fun q3 => ⟨Or.inl rfl, h0 h' hs (fun t G => ?_)⟩, fun q3 => ⟨fun q4 => ⟨xs.1, _, xs.2.1.2.2.2.2.2.2.2.2, xs.2.2.2.2.2, c_put76 xs.2.2.2.2.2 (by decide) (by decide) (fun h2 s2 e0 e1 => ⟨rfl, ?_⟩)⟩, fun q4 => ⟨Or.inl rfl, h0 h' hs (fun t G => ?_)⟩⟩⟩⟩⟩)⟩)
  · obtain ⟨k', p', n'⟩ := t
    obtain ⟨g1, g2, g3, g4, g5, g6⟩ := G
    have e1 : k' = k := (nI_eq (by omega) (by omega)).mp (g2.symm.trans ex)
    subst e1
    change p' < dP (DD k') at g3
    rw [g4, sp_in_nI (by have := ok.2.1; omega) g3] at qp
    exact absurd qp (by decide)
  · obtain ⟨k', p', n'⟩ := t
    obtain ⟨g1, g2, g3, g4, g5, g6⟩ := G
    rw [g6] at q3
    exact nI_pos (by omega) q3
  · have H12 := ok.1.2
    have P6 := ok.2.1
    have k2 : k < 2 := by omega
    obtain ⟨p, hp, rfl⟩ := sp_in_ix (by omega) (b2i_n0.mp qp)
    obtain ⟨n, -, hn, rfl⟩ := i_rng (x := x3) (a := 0) (b := 2) (by decide) (by decide) (by rw [nI_0]; exact Int32.not_lt.mp q3) q4
    have G : hG z DD x1 (nI p) (nI n) (k, p, n) := ⟨hk, ex, hp, rfl, hn, rfl⟩
    obtain ⟨W, hW, hT⟩ := w_sum ok (rul (DD k))
    have fw : sp_w (DD k) (rul (DD k)) = fun q => nI (W q) := funext (fun q => (hW q).1)
    have eWx : ∀ q, wx0 (DD k) q = (W q : Int) := fun q => by unfold wx0; rw [(hW q).1, nI_toInt (by have := (hW q).2; omega)]
    have xs2 := xs_st_same s2 xs
    have rc2 := rc_at_same s2 (fun j hj q => by omega) hc.1
    have co2 := co_at_same s2 (by decide) hc.2.1
    have od2 := od_at_same s2 (by decide) hc.2.2
    have cs2 : ax_same cl_F h h2 := sm_tr hs (sm_mono s2 (fun x e => by unfold cl_F; omega))
    have hb0 : hB 999 (dP (DD k)) (dpu (DD k)) := fun p hp => by have := ok.2.2.2.2.1 p hp; omega
    have cl53 : ∀ h3 h4, ax_same (fun a => a = 53) h3 h4 → ax_same cl_F h3 h4 := fun h3 h4 s => sm_mono s (fun x e => by unfold cl_F; omega)
    have cl76 : ∀ h3 h4, ax_same (fun a => a = 76) h3 h4 → ax_same cl_F h3 h4 := fun h3 h4 s => sm_mono s (fun x e => by unfold cl_F; omega)
    have tb0 := sp_t_bd ok (rul (DD k))
    have L0 := sL_bd ok
    have s9 := sN_9 (fun q => (hW q).2)
    have s12 := s9 (dH (DD k))
    refine ⟨fun n0 => ⟨fun n1 => ?_, fun n1 => ⟨xs2.1, _, xs2.2.1.2.2.2.2.2.2.2.2, xs2.1, _, xs2.2.1.2.2.2.2.1, xs2.1, c_nextDayE (W := W) (b := 2286) ok (Or.inl rfl) xs2 rc2 (by omega) co2 (by rw [← fw]; exact od2) (fun q => (hW q).2) hp (by decide) (by decide) (fun q hq => hB_vl ok (by decide) hb0) (fun v h3 s3 c3 b3 ev => ⟨_, rfl, ?_⟩)⟩⟩, fun n0 => ⟨xs2.1, _, xs2.2.1.2.2.2.2.2.2.2.2, xs2.1, _, xs2.2.1.2.2.2.1, co2.1.1, c_measure co2 ⟨_, rfl, xs2.2.2.2.2.2, c_put76 xs2.2.2.2.2.2 (by rw [i_64]; have := i_bd (sp_me (dP (DD k)) (dpu (DD k)) (nI p) x4); omega) (by decide) (fun h3 s3 e3 e4 => ⟨rfl, Or.inr rfl, h1 _ h3 G (sm_tr cs2 (cl76 _ _ s3)) ?_⟩)⟩⟩⟩
    · have nn2 : n = 2 := by
        have a0 : n ≠ 0 := fun e => n0 (by rw [e]; exact nI_0)
        have a1 : n ≠ 1 := fun e => n1 (by rw [e]; rfl)
        omega
      subst nn2
      have ehv : hvx (DD k) p 2 x4 = sumI (fx2 (DD k) p x4) (dH (DD k)) := by unfold hvx; rw [if_neg (by decide), if_neg (by decide)]
      have T0 : (sp_t (DD k) (rul (DD k))).toInt = (sNn W (dH (DD k)) : Int) := by rw [hT, nI_toInt (by omega)]
      have key : ∀ f i : Nat, i + f = dH (DD k) → ∀ hh, ax_same cl_F h hh → co_at hh 52 (dP (DD k)) (dH (DD k)) (dpu (DD k)) (sp_vl (DD k)) → od_at hh 55 (dH (DD k)) (sp_w (DD k) (rul (DD k))) (sp_t (DD k) (rul (DD k))) → fOk (ax_l hh 76 0) (ax_l hh 76 1) (sL (DD k)) (sp_t (DD k) (rul (DD k))).toInt (3573 * (sNn W i : Int)) → fXx (ax_l hh 76 0) (ax_l hh 76 1) (sumI (fx2 (DD k) p x4) i) (sL (DD k)) → ∀ o7 o8 : Option Value, A (106, [some (.ref 0), some (.int x1), some (.int (nI p)), some (.int (nI 2)), some (.int x4), some (.ref (6 + 14 * k)), some (.int (nI i)), o7, o8], [], hh, 0, 0) := by
        intro f
        induction f with
        | zero =>
          intro i hi hh s co od F X o7 o8
          have rc := (tc_cl s a).2.2.1.2.2.1 k hk
          refine vX9_expected_106 hA ⟨rc.1.1, fun _ => ⟨Or.inr rfl, h1 _ hh G s ?_⟩, fun q => ?_⟩
          · show fXx _ _ (hvx (DD k) p 2 x4) (sL (DD k))
            rw [ehv, show dH (DD k) = i by omega]; exact X
          · have := rc.2.2.1.1
            rw [show ax_i hh (6 + 14 * k) 5 = nI (dH (DD k)) from this] at q; exact absurd (nI_le (by omega) (by omega)) q
        | succ f ih =>
          intro i hi hh s co od F X o7 o8
          have iH : i < dH (DD k) := by omega
          have t1 := tc_cl s a
          have rc : rc_at hh (6 + 14 * k) (DD k) := t1.2.2.1.2.2.1 k hk
          have x1' := t1.1
          refine vX9_expected_106 hA ⟨rc.1.1, fun q => ?_, fun _ => ⟨x1'.1, _, x1'.2.1.2.2.2.1, co.1.1, c_live co (fun h3 s3 c3' => ⟨rfl, ?_⟩)⟩⟩
          · rw [rc.2.2.1.1] at q; exact absurd q (nI_ge (by omega) (by omega))
          · have c3 : co_at h3 52 (dP (DD k)) (dH (DD k)) (fun p => dpu (DD k) p + sp_vl (DD k) p i) (sp_vl (DD k)) := co_congr c3' (fun p hp => by rw [sp_br_in hp iH ok.2.1 ok.1.2])
            have cs3 := sm_tr s (cl53 _ _ s3)
            have t3 := tc_cl cs3 a
            have x3' := t3.1
            have rc3 : rc_at h3 (6 + 14 * k) (DD k) := t3.2.2.1.2.2.1 k hk
            refine ⟨x3'.1, _, x3'.2.1.2.2.2.2.2.1, x3'.1, _, x3'.2.1.2.2.2.1, c3.1.1, c_poorest c3 ⟨_, rfl, x3'.2.2.2.2.1.1, c_weigh x3'.2.2.2.2.1 rc3 (fun j hj q => by unfold od_F at q; omega) (fun h4 s4 o4' => ⟨rfl, ?_⟩)⟩⟩
            have o4 : od_at h4 57 (dH (DD k)) (sp_w (DD k) (pox (DD k) i)) (sp_t (DD k) (pox (DD k) i)) := o4'
            have s4' : ax_same cl_F h3 h4 := sm_mono s4 (fun x e => by unfold od_F at e; unfold cl_F; omega)
            have cs4 := sm_tr cs3 s4'
            have t4 := tc_cl cs4 a
            have x4' := t4.1
            have rc4 : rc_at h4 (6 + 14 * k) (DD k) := t4.2.2.1.2.2.1 k hk
            have c4 := co_at_same s4 (by refine ⟨?_, ?_, ?_⟩ <;> (intro q; unfold od_F at q; omega)) c3
            obtain ⟨W2, hW2, hT2⟩ := w_sum ok (pox (DD k) i)
            have fw2 : sp_w (DD k) (pox (DD k) i) = fun q => nI (W2 q) := funext (fun q => (hW2 q).1)
            have eW2x : ∀ q, wx1 (DD k) i q = (W2 q : Int) := fun q => by unfold wx1; rw [(hW2 q).1, nI_toInt (by have := (hW2 q).2; omega)]
            refine ⟨x4'.1, _, x4'.2.1.2.2.2.2.2.1, x4'.1, c_nextDayE (W := W2) (b := 3573) ok (Or.inr rfl) x4' rc4 (by omega) c4 (by rw [← fw2]; exact o4) (fun q => (hW2 q).2) hp (by decide) (by decide) (fun q hq => hB_vl ok (by decide) (hB_vl ok (by decide) hb0)) (fun v h5 s5 c5 b5 ev => ⟨_, rfl, ?_⟩)⟩
            have ev2 : v.toInt = sumI (fx2r (DD k) p x4 i) (dH (DD k)) := ev.trans (sumI_congr (fun r hr => by rw [← eW2x r]; rfl))
            have cs5 := sm_tr cs4 (cl53 _ _ s5)
            have x5' := (tc_cl cs5 a).1
            refine ⟨x5'.1, _, x5'.2.1.2.2.2.1, c5.1.1, c_unlive c5 (fun h6 s6 c6 => ⟨rfl, ?_⟩)⟩
            have cs6 := sm_tr cs5 (cl53 _ _ s6)
            have x6' := (tc_cl cs6 a).1
            have co6 : co_at h6 52 (dP (DD k)) (dH (DD k)) (dpu (DD k)) (sp_vl (DD k)) := co_congr c6 (fun p hp => by rw [sp_br_in hp iH ok.2.1 ok.1.2]; exact Int32.add_sub_cancel _ _)
            have od6 : od_at h6 55 (dH (DD k)) (sp_w (DD k) (rul (DD k))) (sp_t (DD k) (rul (DD k))) := od_at_same s6 (by decide) (od_at_same s5 (by decide) (od_at_same s4 (by refine ⟨?_, ?_⟩ <;> (intro q; unfold od_F at q; omega)) (od_at_same s3 (by decide) od)))
            have o6 := od_at_same s6 (by decide) (od_at_same s5 (by decide) o4)
            have l6 : ∀ j, ax_l h6 76 j = ax_l hh 76 j := fun j => by rw [(s6.2.2.2 76 (by decide)).2, (s5.2.2.2 76 (by decide)).2, (s4.2.2.2 76 (by unfold od_F; decide)).2, (s3.2.2.2 76 (by decide)).2]
            refine ⟨x6'.1, _, x6'.2.1.2.2.2.2.2.2.2.2, x6'.1, _, x6'.2.1.2.2.2.2.1, od6.1.1, _, od6.1.2.1, by rw [od6.1.2.2], by rw [od6.1.2.2]; exact vp_in_nI (by omega) (by decide), x6'.1, _, x6'.2.1.2.2.2.2.1, od6.1.1, x6'.1, _, x6'.2.1.2.2.2.2.2.1, o6.1.1, x6'.2.2.2.2.2, ?_⟩
            rw [nI_clamp (by omega), od6.2.2.2.2 i (by omega), od6.2.2.2.1, o6.2.2.2.1]
            have tb2 := sp_t_bd ok (pox (DD k) i)
            have s92 := sN_9 (fun q => (hW2 q).2)
            have T2 : (sp_t (DD k) (pox (DD k) i)).toInt = (sNn W2 (dH (DD k)) : Int) := by rw [hT2, nI_toInt (by have := s92 (dH (DD k)); omega)]
            have bb : ((sp_t (DD k) (rul (DD k))).toInt64 * (sp_t (DD k) (pox (DD k) i)).toInt64).toInt = (sp_t (DD k) (rul (DD k))).toInt * (sp_t (DD k) (pox (DD k) i)).toInt := by
              have bz := abs_mul (a := 108) (b := 108) (x := (sp_t (DD k) (rul (DD k))).toInt) (y := (sp_t (DD k) (pox (DD k) i)).toInt) (by decide) (by decide) (by omega) (by omega)
              rw [i64_mul (by rw [i_64, i_64]; omega) (by rw [i_64, i_64]; omega), i_64, i_64]
            have w9 := (hW i).2
            have eW : (sp_w (DD k) (rul (DD k)) i).toInt = (W i : Int) := by rw [(hW i).1, nI_toInt (by omega)]
            have sm1 : sNn W (i + 1) ≤ sNn W (dH (DD k)) := sNn_mono (by omega)
            have sm2 : sNn W (i + 1) = sNn W i + W i := rfl
            have S2 : sNn W2 (dH (DD k)) ≤ 108 := by have := s92 (dH (DD k)); omega
            have b5' : -385884 ≤ v.toInt ∧ v.toInt ≤ 385884 := by unfold bL at b5; omega
            have wv := abs_mul (a := 9) (b := 385884) (x := (W i : Int)) (y := v.toInt) (by decide) (by decide) (by omega) b5'
            have ewv : ((sp_w (DD k) (rul (DD k)) i).toInt64 * v).toInt = (W i : Int) * v.toInt := by rw [i64_mul (by rw [i_64, eW]; omega) (by rw [i_64, eW]; omega), i_64, eW]
            refine c_add76E (L := sL (DD k)) (τ := (sp_t (DD k) (rul (DD k))).toInt) (c := 3573 * (sNn W i : Int)) (d := 3573 * (W i : Int)) (v := sumI (fx2 (DD k) p x4) i) (w := fx2 (DD k) p x4 i) x6'.2.2.2.2.2 L0.1 (by omega) tb0.1 (by omega) (by omega) (s_big ok tb0.1 (by rw [T0]; omega)) (by rw [l6, l6]; exact F) (by rw [bb]; exact Int.mul_pos tb0.1 tb2.1) (by rw [bb]; exact tx1_dvd ok (by omega) i) ?_ (by rw [l6, l6]; exact X.2.2.1) ?_ (fun h7 s7 f7 X7 => ⟨rfl, ?_⟩)
            · have hm : (W i : Int) * (3573 * (sNn W2 (dH (DD k)) : Int)) ≤ 9 * (3573 * (sNn W2 (dH (DD k)) : Int)) := Int.mul_le_mul_of_nonneg_right (by omega) (by omega)
              have m := bL_mul (a := (W i : Int)) (b := 3573 * (sNn W2 (dH (DD k)) : Int)) (by omega) (by omega) (bL_32 (x := sp_w (DD k) (rul (DD k)) i) (by rw [eW]; omega)) b5 (by omega)
              unfold bL at m
              have m2 : (((sp_w (DD k) (rul (DD k)) i).toInt64 * v).toInt.natAbs : Int) ≤ (W i : Int) * (3573 * (sNn W2 (dH (DD k)) : Int)) := by omega
              have m3 := Int.mul_le_mul_of_nonneg_right m2 (Int.le_of_lt tb0.1)
              rw [bb, T2]
              refine Int.le_trans m3 (Int.le_of_eq ?_)
              ac_rfl
            · rw [ewv, bb, ev2, ← eWx i]
              show wx0 (DD k) i * sumI (fx2r (DD k) p x4 i) (dH (DD k)) * sL (DD k) = wx0 (DD k) i * sumI (fx2r (DD k) p x4 i) (dH (DD k)) * ux1 (DD k) i * (tx0 (DD k) * tx1 (DD k) i)
              rw [ux1_e ok (by omega) i]
              ac_rfl
            · rw [← nI_succ]
              refine ih (i + 1) (by omega) h7 (sm_tr cs6 (cl76 _ _ s7)) (co_at_same s7 (by decide) co6) (od_at_same s7 (by decide) od6) ?_ X7 _ _
              rw [show 3573 * (sNn W (i + 1) : Int) = 3573 * (sNn W i : Int) + 3573 * (W i : Int) from by rw [sm2]; omega]
              exact f7
      rw [show (0 : Int64) / gL 0 1 = 0 from by decide +kernel] at e0
      rw [show (1 : Int64) / gL 0 1 = 1 from by decide +kernel] at e1
      refine key (dH (DD k)) 0 (by omega) h2 cs2 co2 od2 ?_ (by rw [e0, e1]; exact fx_0) _ _
      rw [e0, e1]
      refine ⟨by decide, ⟨sL (DD k), by rw [show (1 : Int64).toInt = 1 from rfl, Int.one_mul]⟩, ?_⟩
      show (0 : Int) * _ ≤ 3573 * (0 : Int) * _
      rw [Int.zero_mul, Int.mul_zero, Int.zero_mul]
      exact Int.le_refl _
    · have nn1 : n = 1 := (nI_eq (by omega) (by decide)).mp (n1.trans rfl)
      subst nn1
      have xs3 := xs_st_same s3 xs2
      have od3 := od_at_same s3 (by decide) od2
      refine ⟨xs3.1, _, xs3.2.1.2.2.2.2.1, od3.1.1, xs3.2.2.2.2.2, ?_⟩
      rw [od3.2.2.2.1]
      have bv : -9223372036854775808 < v.toInt := by unfold bL at b3; omega
      refine c_put76 xs3.2.2.2.2.2 bv (t_pos ok) (fun h4 s4 e4 e5 => ⟨rfl, Or.inr rfl, h1 _ h4 G (sm_tr (sm_tr cs2 (cl53 _ _ s3)) (cl76 _ _ s4)) ?_⟩)
      rw [e4, e5]
      refine fx_put bv (t_pos ok) (by rw [i_64]; exact Int.dvd_mul_right _ _) ?_
      have ev2 : v.toInt = sumI (fx1 (DD k) p x4) (dH (DD k)) := ev.trans (sumI_congr (fun r hr => by rw [← eWx r]; rfl))
      rw [ev2, i_64]
      show _ = hvx (DD k) p 1 x4 * tx0 (DD k)
      rw [show hvx (DD k) p 1 x4 = sumI (fx1 (DD k) p x4) (dH (DD k)) * ux0 (DD k) from by unfold hvx; rw [if_neg (by decide), if_pos rfl], ux0_e (DD k)]
      ac_rfl
    · have nn0 : n = 0 := (nI_eq (by omega) (by decide)).mp (n0.trans nI_0.symm)
      subst nn0
      rw [e3, e4]
      refine fx_put (by rw [i_64]; have := i_bd (sp_me (dP (DD k)) (dpu (DD k)) (nI p) x4); omega) (by decide) ⟨sL (DD k), by rw [show (1 : Int64).toInt = 1 from rfl, Int.one_mul]⟩ ?_
      rw [i_64, show (1 : Int64).toInt = 1 from rfl, Int.mul_one]
      show _ = hvx (DD k) p 0 x4
      unfold hvx
      rw [if_pos rfl]
      rfl
  · obtain ⟨k', p', n'⟩ := t
    obtain ⟨g1, g2, g3, g4, g5, g6⟩ := G
    rw [g6] at q4
    exact q4 (nI_le (b := 2) g5 (by decide))
theorem q9_hope {x1 x2 x3 x4 : Int32} {V : Int64} (a : tc h z DD N C) (hV : ansE (hG z DD x1 x2 x3) (hVl DD 0 x4) (-1000000) V) (hq : ∀ h', ax_same cl_F h h' → Ret (some (.long V)) h') : mX9_hope g [.ref 0, .int x1, .int x2, .int x3, .int x4] h Ret := by
  refine eX9_hope ⟨a.1.1, c_expectedE a (fun h2 s2 no => ⟨_, rfl, fun _ => ?_, fun q => absurd rfl q⟩) (fun t h2 G s2 X => ⟨_, rfl, fun q => absurd q (by decide), fun _ => ?_⟩)⟩
  · rw [← ans_no hV no]; exact hq h2 s2
  · have xs := (tc_cl s2 a).1
    have eV : V = if x4 = 0 then ax_l h2 76 0 else ax_l h2 76 1 := (ans_yes hV G (fun t' G' => hG_u a.2.2.2.2 G G')).trans (fx_side (sL_bd (a.2.2.2.2.2.1 t.1 G.1)).1 X)
    exact ⟨xs.1, _, xs.2.1.2.2.2.2.2.2.2.2, xs.2.2.2.2.2, eX1_sideOf ⟨fun q => ⟨xs.2.2.2.2.2, _, rfl, by rw [if_pos q] at eV; rw [← eV]; exact hq h2 s2⟩, fun q => ⟨xs.2.2.2.2.2, _, rfl, by rw [if_neg q] at eV; rw [← eV]; exact hq h2 s2⟩⟩⟩
theorem q9_doom {x1 x2 x3 x4 : Int32} {V : Int64} (a : tc h z DD N C) (hV : ansE (hG z DD x1 x2 x3) (hVl DD 1 x4) (-1) V) (hq : ∀ h', ax_same cl_F h h' → Ret (some (.long V)) h') : mX9_doom g [.ref 0, .int x1, .int x2, .int x3, .int x4] h Ret := by
  refine eX9_doom ⟨a.1.1, c_expectedE a (fun h2 s2 no => ⟨_, rfl, fun _ => ?_, fun q => absurd rfl q⟩) (fun t h2 G s2 X => ⟨_, rfl, fun q => absurd q (by decide), fun _ => ?_⟩)⟩
  · rw [← ans_no hV no]; exact hq h2 s2
  · have xs := (tc_cl s2 a).1
    have eV : V = if x4 = 0 then ax_l h2 76 0 else ax_l h2 76 1 := (ans_yes hV G (fun t' G' => hG_u a.2.2.2.2 G G')).trans (fx_side (sL_bd (a.2.2.2.2.2.1 t.1 G.1)).1 X)
    exact ⟨xs.1, _, xs.2.1.2.2.2.2.2.2.2.2, xs.2.2.2.2.2, eX1_sideOf ⟨fun q => ⟨xs.2.2.2.2.2, _, rfl, by rw [if_pos q] at eV; rw [← eV]; exact hq h2 s2⟩, fun q => ⟨xs.2.2.2.2.2, _, rfl, by rw [if_neg q] at eV; rw [← eV]; exact hq h2 s2⟩⟩⟩
end
