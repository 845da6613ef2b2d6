section
variable {g : ax_G} {Ret : Option Value → ax_H → Prop} {h : ax_H} {z : Nat → Nat} {DD : Nat → rD} {N : Nat → Nat → Nat} {C : Nat → Nat → Nat → Nat → Int32} {S : sT} {Im : Nat → Option sT} {tp : Nat → Nat} {B : Nat}
/-! PLAN and FREE: both sides the same -/
def plS (D : rD) (C1 : Nat → Nat → Int32) : Nat → Nat → Int := scC D (fun i => C1 i 0) (sp_w D (rul D)) (sp_t D (rul D))
def plR (D : rD) (C1 : Nat → Nat → Int32) (n : Nat) (y : Int32) : Option Int := rBx n (dH D) (mayC C1 y) (plS D C1) n 0
def plG (D : rD) (C1 : Nat → Nat → Int32) (n : Nat) : Nat → Nat := gf n (dH D) (mayC C1 0) (plS D C1) n 0
def plK (D : rD) (C1 : Nat → Nat → Int32) (n : Nat) : Int := sumI (kwT D C1 n (sp_w D (rul D))) (dH D)
def plW (D : rD) (C1 : Nat → Nat → Int32) (n : Nat) : Int32 := (rgr (sp_w D (rul D)) (vKn D C1 n) (fun q => sumI (blK D (fun i => C1 i 0) n (plG D C1 n) q) n) (dH D)).2
def sdI (a : Int) (D : rD) (u : Int32) : Int32 := (sp_sd (Int64.ofInt a) (sp_t D (rul D)).toInt64 u).toInt32
def plX (D : rD) (C1 : Nat → Nat → Int32) (n : Nat) (v : Int) (x : Int32) : Int32 := if x = 0 then sdI v D 0 else if x = 1 then sdI v D 1 else if x = 2 then sdI (plK D C1 n) D 0 else if x = 3 then sdI (plK D C1 n) D 1 else if x = 4 then sdI (plK D C1 n - v) D 0 else if x = 5 then sdI (plK D C1 n - v) D 1 else if x = 6 then plW D C1 n else if x < 10 then -1000000 else if sp_in (x - 10) n = true then nI (plG D C1 n (x - 10).toNatClampNeg) else -1000000
def plA (D : rD) (C1 : Nat → Nat → Int32) (n : Nat) (x : Int32) : Int32 := match plR D C1 n 0 with
  | none => -1000000
  | some v => plX D C1 n v x
def plGd (z : Nat → Nat) (x1 x2 : Int32) (t : Nat × Nat) : Prop := t.1 < z 0 ∧ x1 = nI t.1 ∧ t.2 < z 2 ∧ x2 = nI t.2
theorem plGd_u {x1 x2 : Int32} {t t' : Nat × Nat} (K : tk z DD N C) (a : plGd z x1 x2 t) (b : plGd z x1 x2 t') : t' = t := by
  obtain ⟨k, w⟩ := t
  obtain ⟨k', w'⟩ := t'
  obtain ⟨a1, a2, a3, a4⟩ := a
  obtain ⟨b1, b2, b3, b4⟩ := b
  change k < z 0 at a1
  change k' < z 0 at b1
  change w < z 2 at a3
  change w' < z 2 at b3
  have z0 := K.1 0 (by decide)
  have z2 := K.1 2 (by decide)
  have e1 : k' = k := (nI_eq (by omega) (by omega)).mp (b2.symm.trans a2)
  have e2 : w' = w := (nI_eq (by omega) (by omega)).mp (b4.symm.trans a4)
  rw [e1, e2]
def plVl (DD : Nat → rD) (N : Nat → Nat → Nat) (C : Nat → Nat → Nat → Nat → Int32) (x3 : Int32) (t : Nat × Nat) : Int32 := plA (DD t.1) (C 2 t.2) (N 2 t.2) x3
theorem plX_0 {D : rD} {C1 : Nat → Nat → Int32} {n : Nat} {v : Int} : plX D C1 n v 0 = sdI v D 0 := if_pos rfl
theorem plX_1 {D : rD} {C1 : Nat → Nat → Int32} {n : Nat} {v : Int} : plX D C1 n v 1 = sdI v D 1 := by unfold plX; rw [if_neg (by decide), if_pos rfl]
theorem plX_2 {D : rD} {C1 : Nat → Nat → Int32} {n : Nat} {v : Int} : plX D C1 n v 2 = sdI (plK D C1 n) D 0 := by unfold plX; rw [if_neg (by decide), if_neg (by decide), if_pos rfl]
theorem plX_3 {D : rD} {C1 : Nat → Nat → Int32} {n : Nat} {v : Int} : plX D C1 n v 3 = sdI (plK D C1 n) D 1 := by unfold plX; rw [if_neg (by decide), if_neg (by decide), if_neg (by decide), if_pos rfl]
theorem plX_4 {D : rD} {C1 : Nat → Nat → Int32} {n : Nat} {v : Int} : plX D C1 n v 4 = sdI (plK D C1 n - v) D 0 := by unfold plX; rw [if_neg (by decide), if_neg (by decide), if_neg (by decide), if_neg (by decide), if_pos rfl]
theorem plX_5 {D : rD} {C1 : Nat → Nat → Int32} {n : Nat} {v : Int} : plX D C1 n v 5 = sdI (plK D C1 n - v) D 1 := by unfold plX; rw [if_neg (by decide), if_neg (by decide), if_neg (by decide), if_neg (by decide), if_neg (by decide), if_pos rfl]
theorem plX_6 {D : rD} {C1 : Nat → Nat → Int32} {n : Nat} {v : Int} : plX D C1 n v 6 = plW D C1 n := by unfold plX; rw [if_neg (by decide), if_neg (by decide), if_neg (by decide), if_neg (by decide), if_neg (by decide), if_neg (by decide), if_pos rfl]
theorem plX_d {D : rD} {C1 : Nat → Nat → Int32} {n : Nat} {v : Int} {x : Int32} (h0 : ¬ x = 0) (h1 : ¬ x = 1) (h2 : ¬ x = 2) (h3 : ¬ x = 3) (h4 : ¬ x = 4) (h5 : ¬ x = 5) (h6 : ¬ x = 6) : plX D C1 n v x = if x < 10 then -1000000 else if sp_in (x - 10) n = true then nI (plG D C1 n (x - 10).toNatClampNeg) else -1000000 := by
  unfold plX
  rw [if_neg h0, if_neg h1, if_neg h2, if_neg h3, if_neg h4, if_neg h5, if_neg h6]
theorem ne_big {x : Int32} (h : ¬ x < 10) {c : Int32} (hc : c < 10) : ¬ x = c := fun e => h (by rw [e]; exact hc)
theorem plK_bd {D : rD} {C1 : Nat → Nat → Int32} {n : Nat} (ok : rd_ok D) (n6 : n ≤ 6) : -10000000 ≤ plK D C1 n ∧ plK D C1 n ≤ 10000000 := by
  have H12 := ok.1.2
  have kb : ∀ q : Nat, -(700000 * (q : Int)) ≤ sumI (kwT D C1 n (sp_w D (rul D))) q ∧ sumI (kwT D C1 n (sp_w D (rul D))) q ≤ 700000 * (q : Int) := fun q => by
    induction q with
    | zero => show -(700000 * 0) ≤ (0 : Int) ∧ (0 : Int) ≤ 700000 * 0; omega
    | succ q ih =>
      have h2 := sp_w_bd ok (rul D) q
      have m := abs_mul (a := 9) (b := 69498) (x := (sp_w D (rul D) q).toInt) (y := vKn D C1 n q) (by decide) (by decide) (by omega) (vKn_bd ok n6 q)
      show -(700000 * ((q + 1 : Nat) : Int)) ≤ sumI (kwT D C1 n (sp_w D (rul D))) q + kwT D C1 n (sp_w D (rul D)) q ∧ sumI (kwT D C1 n (sp_w D (rul D))) q + kwT D C1 n (sp_w D (rul D)) q ≤ 700000 * ((q + 1 : Nat) : Int)
      unfold kwT at ih ⊢
      omega
  have := kb (dH D)
  unfold plK
  omega
/-- a fraction over T and over T times T -/
theorem sd_scale {a T : Int64} {x : Int} {u : Int32} (hT : 0 < T.toInt ∧ T.toInt ≤ 108) (hx : -100000000 ≤ x ∧ x ≤ 100000000) (ea : a.toInt = T.toInt * x) : sp_sd a (T * T) u = sp_sd (Int64.ofInt x) T u := by
  have ex : (Int64.ofInt x).toInt = x := ofI (by omega) (by omega)
  have m1 := abs_mul (a := 108) (b := 108) (x := T.toInt) (y := T.toInt) (by decide) (by decide) (by omega) (by omega)
  have m2 := abs_mul (a := 108) (b := 100000000) (x := T.toInt) (y := x) (by decide) (by decide) (by omega) hx
  have eT : (T * T).toInt = T.toInt * T.toInt := i64_mul (by omega) (by omega)
  have pT : 0 < T.toInt * T.toInt := Int.mul_pos hT.1 hT.1
  obtain ⟨g1, g0⟩ := gL_toInt (a := Int64.ofInt x) hT.1
  obtain ⟨k1, k0⟩ := gL_toInt (a := a) (b := T * T) (by rw [eT]; exact pT)
  have eg : (gL a (T * T)).toInt = T.toInt * (gL (Int64.ofInt x) T).toInt := by
    rw [k1, g1, ea, eT, ex, Int.natAbs_mul, Int.natAbs_mul, Nat.gcd_mul_left, Int.natCast_mul, Int.natAbs_of_nonneg (Int.le_of_lt hT.1)]
  unfold sp_sd
  split
  · apply l_inj
    rw [l_div (by omega) k0, l_div (by rw [ex]; omega) g0, ea, eg, ex, Int.mul_tdiv_mul_of_pos _ _ hT.1]
  · apply l_inj
    rw [l_div (by rw [eT]; omega) k0, l_div (by omega) g0, eT, eg, Int.mul_tdiv_mul_of_pos _ _ hT.1]
theorem q9_plan {x1 x2 x3 V : Int32} (a : tc h z DD N C) (pl : pl_st h 59) (hV : ansE (plGd z x1 x2) (plVl DD N C x3) (-1000000) V) (hq : ∀ h', ax_same cl_F h h' → Ret (some (.int V)) h') : mX9_plan g [.ref 0, .int x1, .int x2, .int x3] h Ret := by
  have z0 := a.2.2.2.2.1 0 (by decide)
  have z2 := a.2.2.2.2.1 2 (by decide)
  have no : ∀ h', ax_same cl_F h h' → (∀ t, ¬ plGd z x1 x2 t) → Ret (some (.int (-1000000))) h' := fun h' s n => by rw [← ans_no hV n]; exact hq h' s
  refine eX9_plan ⟨a.1.1, q_begun a (fun q => Or.inr ⟨rfl, a.1.1, _, a.1.2.1.1, a.2.2.1.1.1, c_linesAt (s0 := 2) a.2.2.1 (by decide) (by decide) (fun _ => Or.inr ⟨rfl, no h sm_rf (fun t G => in_no q z0 G.1 G.2.1)⟩) (fun k hk ex => Or.inl ⟨_, rfl, no h sm_rf (fun t G => in_no q z0 G.1 G.2.1)⟩)⟩) (fun k hk ex ok h' hs xs hc => Or.inl ⟨_, rfl, ?_⟩)⟩
  have b := tc_cl hs a
  have k2 : k < 2 := by omega
  refine ⟨b.1.1, _, b.1.2.1.1, b.2.2.1.1.1, c_linesAt (s0 := 2) b.2.2.1 (by decide) (by decide) (fun q => Or.inr ⟨rfl, no h' hs (fun t G => in_no q z2 G.2.2.1 G.2.2.2)⟩) (fun w hw ew => Or.inl ⟨_, rfl, ?_⟩)⟩
  have w2 : w < 2 := by omega
  have L := b.2.2.1.2.2.2 2 w (by decide) (by decide) hw
  have n6 : N 2 w ≤ 6 := L.2.1
  have p := pl_st_same hs pl
  have hr : 6 + 14 * k + 6 ≤ 59 := by omega
  have hl : lnp 1 2 w + 2 ≤ 59 := by unfold lnp; omega
  have tb0 := sp_t_bd ok (rul (DD k))
  have hV2 : V = plA (DD k) (C 2 w) (N 2 w) x3 := ans_yes (t := (k, w)) hV ⟨hk, ex, hw, ew⟩ (fun t' G' => plGd_u a.2.2.2.2 ⟨hk, ex, hw, ew⟩ G')
  have hwb : ∀ q, q < dH (DD k) → 0 ≤ (sp_w (DD k) (rul (DD k)) q).toInt ∧ (sp_w (DD k) (rul (DD k)) q).toInt ≤ 9 := fun q _ => sp_w_bd ok _ q
  refine ⟨b.1.1, _, b.1.2.1.2.2.2.2.2.2.1, b.1.1, _, b.1.2.1.2.2.2.2.1, p.1, c_planBlindE ok p hc.1 hr hc.2.2 L hl (by omega) hwb (fun h2 s2 e2 => ⟨_, rfl, fun q => absurd rfl q, fun _ => ?_⟩) (fun h2 v s2 e2 bv l1 d2 => ⟨_, rfl, fun _ => ?_, fun q => absurd q (by decide)⟩)⟩
  · have : V = -1000000 := by rw [hV2]; unfold plA; rw [show plR (DD k) (C 2 w) (N 2 w) 0 = none from e2]
    rw [← this]; exact hq h2 (sm_tr hs (pl_cl s2))
  have eA : V = plX (DD k) (C 2 w) (N 2 w) v x3 := by rw [hV2]; unfold plA; rw [show plR (DD k) (C 2 w) (N 2 w) 0 = some v from e2]
  obtain ⟨p2, rc2, od2, L2⟩ := pl_kp s2 p hc.1 hr hc.2.2 L hl
  have x2' := xs_st_same s2 xs
  have fin : ∀ (u : Int32) h3, ax_same plF h2 h3 → V = u → Ret (some (.int u)) h3 := fun u h3 s3 e => by rw [← e]; exact hq h3 (sm_tr hs (pl_cl (sm_tr s2 s3)))
  have r0 := x2'.1
  have r6 := x2'.2.1.2.2.2.2.2.2.1
  have r4 := x2'.2.1.2.2.2.2.1
  have kb := plK_bd (C1 := C 2 w) ok n6
  have side : ∀ (u : Int32) (x : Int) (y : Int64) h3, ax_same plF h2 h3 → -100000000 ≤ x ∧ x ≤ 100000000 → y = Int64.ofInt x → V = sdI x (DD k) u → mX1_side g [.long y, .long (sp_t (DD k) (rul (DD k))).toInt64, .int u] h3 (fun v16 h15 => ∃ r17 : Int64, v16 = some (.long r17) ∧ Ret (some (.int r17.toInt32)) h15) := fun u x y h3 s3 bx ey e => by
    rw [ey]
    exact c_side (by rw [ofI (by omega) (by omega)]; omega) (t_pos ok) ⟨_, rfl, fin _ h3 s3 e⟩
  have fe : ∀ sc : Nat → Nat → Int, ∃ u, rBx (N 2 w) (dH (DD k)) (mayC (C 2 w) 0) sc (N 2 w) 0 = some u := fun sc => rB_has e2
  have gl : ∀ i, i < N 2 w → plG (DD k) (C 2 w) (N 2 w) i < 12 := fun i hi => by
    have := gf_lt (H := dH (DD k)) ok.1.2 (N 2 w) 0 (Nat.le_refl _) v e2 i (by omega) hi
    have H12 := ok.1.2
    show gf (N 2 w) (dH (DD k)) (mayC (C 2 w) 0) (plS (DD k) (C 2 w)) (N 2 w) 0 i < 12
    exact Nat.lt_of_lt_of_le this H12
  have kn : ∀ K : Option Value → ax_H → Prop, (∀ h3, ax_same plF h2 h3 → xs_st h3 → pl_st h3 59 → od_at h3 55 (dH (DD k)) (sp_w (DD k) (rul (DD k))) (sp_t (DD k) (rul (DD k))) → ax_l h3 59 1 = Int64.ofInt v → ax_l h3 59 2 = Int64.ofInt (plK (DD k) (C 2 w) (N 2 w)) → ax_i h3 59 3 = plW (DD k) (C 2 w) (N 2 w) → K none h3) → mX4_planKnowing g [.ref 59, .ref (6 + 14 * k), .ref 55, .ref (lnp 1 2 w)] h2 K := fun K hK => c_planKnowingE (F := plG (DD k) (C 2 w) (N 2 w)) (v := v) ok p2 rc2 hr od2 hwb L2 hl gl fe ⟨l1, d2⟩ (fun h3 s3 b3 c2 c3 => hK h3 s3 (xs_st_same s3 x2') (pl_st_same s3 p2) (od_at_same s3 (by refine ⟨?_, ?_⟩ <;> (intro q; unfold plF at q; omega)) od2) b3.1 c2 c3)
  have sub : Int64.ofInt (plK (DD k) (C 2 w) (N 2 w)) - Int64.ofInt v = Int64.ofInt (plK (DD k) (C 2 w) (N 2 w) - v) := by
    refine ofI_eq (by omega) (by omega) ?_
    rw [i64_sub (by rw [ofI (by omega) (by omega), ofI (by omega) (by omega)]; omega) (by rw [ofI (by omega) (by omega), ofI (by omega) (by omega)]; omega), ofI (by omega) (by omega), ofI (by omega) (by omega)]
  refine ⟨fun lt => ⟨fun q0 => ⟨r0, _, r6, p2.1, r0, _, r4, od2.1.1, ?_⟩, fun q0 => ⟨fun q1 => ⟨r0, _, r6, p2.1, r0, _, r4, od2.1.1, ?_⟩, fun q1 => ⟨fun q2 => ⟨r0, _, r6, r0, _, r4, p2.1, kn _ (fun h3 s3 y3 p3 o3 c1 c2 c3 => ⟨rfl, y3.1, _, y3.2.1.2.2.2.2.2.2.1, p3.1, y3.1, _, y3.2.1.2.2.2.2.1, o3.1.1, ?_⟩)⟩, fun q2 => ⟨fun q3 => ⟨r0, _, r6, r0, _, r4, p2.1, kn _ (fun h3 s3 y3 p3 o3 c1 c2 c3 => ⟨rfl, y3.1, _, y3.2.1.2.2.2.2.2.2.1, p3.1, y3.1, _, y3.2.1.2.2.2.2.1, o3.1.1, ?_⟩)⟩, fun q3 => ⟨fun q4 => ⟨r0, _, r6, r0, _, r4, p2.1, kn _ (fun h3 s3 y3 p3 o3 c1 c2 c3 => ⟨rfl, y3.1, _, y3.2.1.2.2.2.2.2.2.1, p3.1, y3.1, _, y3.2.1.2.2.2.2.2.2.1, p3.1, y3.1, _, y3.2.1.2.2.2.2.1, o3.1.1, ?_⟩)⟩, fun q4 => ⟨fun q5 => ⟨r0, _, r6, r0, _, r4, p2.1, kn _ (fun h3 s3 y3 p3 o3 c1 c2 c3 => ⟨rfl, y3.1, _, y3.2.1.2.2.2.2.2.2.1, p3.1, y3.1, _, y3.2.1.2.2.2.2.2.2.1, p3.1, y3.1, _, y3.2.1.2.2.2.2.1, o3.1.1, ?_⟩)⟩, fun q5 => ⟨fun q6 => ⟨r0, _, r6, r0, _, r4, p2.1, kn _ (fun h3 s3 y3 p3 o3 c1 c2 c3 => ⟨rfl, y3.1, _, y3.2.1.2.2.2.2.2.2.1, p3.1, fin _ h3 s3 ?_⟩)⟩, fun q6 => fin _ h2 sm_rf ?_⟩⟩⟩⟩⟩⟩⟩, fun lt => ⟨L2.1.1, c_lhas L2 ⟨_, rfl, fun q => fin _ h2 sm_rf ?_, fun q => ⟨r0, _, r6, p2.1, _, p2.2.1.1, by rw [p2.2.2.1], ?_, ?_⟩⟩⟩⟩
  · rw [od2.2.2.2.1, l1]; subst q0
    exact ⟨fun _ => side _ v _ h2 sm_rf (by omega) rfl (by rw [eA, plX_0]), fun e => absurd e (by decide)⟩
  · rw [od2.2.2.2.1, l1]; subst q1
    exact ⟨fun e => absurd rfl e, fun _ => side _ v _ h2 sm_rf (by omega) rfl (by rw [eA, plX_1])⟩
  · rw [o3.2.2.2.1, c2]; subst q2
    exact ⟨fun _ => side _ _ _ h3 s3 (by omega) rfl (by rw [eA, plX_2]), fun e => absurd e (by decide)⟩
  · rw [o3.2.2.2.1, c2]; subst q3
    exact ⟨fun e => absurd rfl e, fun _ => side _ _ _ h3 s3 (by omega) rfl (by rw [eA, plX_3])⟩
  · rw [o3.2.2.2.1, c1, c2, sub]; subst q4
    exact ⟨fun _ => side _ _ _ h3 s3 (by omega) rfl (by rw [eA, plX_4]), fun e => absurd e (by decide)⟩
  · rw [o3.2.2.2.1, c1, c2, sub]; subst q5
    exact ⟨fun e => absurd rfl e, fun _ => side _ _ _ h3 s3 (by omega) rfl (by rw [eA, plX_5])⟩
  · subst q6
    rw [eA, plX_6]; exact c3.symm
  · rw [eA, plX_d q0 q1 q2 q3 q4 q5 q6, if_pos lt]
  · rw [eA, plX_d (ne_big lt (by decide)) (ne_big lt (by decide)) (ne_big lt (by decide)) (ne_big lt (by decide)) (ne_big lt (by decide)) (ne_big lt (by decide)) (ne_big lt (by decide)), if_neg lt, if_neg (by rw [b2i_0.mp q]; decide)]
  · obtain ⟨j, hj, ej⟩ := sp_in_ix (by omega) (b2i_n0.mp q)
    rw [ej, p2.2.2.1]; exact vp_in_nI (by omega) (by decide)
  · obtain ⟨j, hj, ej⟩ := sp_in_ix (by omega) (b2i_n0.mp q)
    refine fin _ h2 sm_rf ?_
    rw [eA, plX_d (ne_big lt (by decide)) (ne_big lt (by decide)) (ne_big lt (by decide)) (ne_big lt (by decide)) (ne_big lt (by decide)) (ne_big lt (by decide)) (ne_big lt (by decide)), if_neg lt, if_pos (b2i_n0.mp q), ej, nI_clamp (by omega)]
    exact (d2 j hj).symm
/-- FREE: what it is worth that each may be done at any hour -/
def frA (D : rD) (C1 : Nat → Nat → Int32) (n : Nat) (x : Int32) : Int32 := match plR D C1 n 0 with
  | none => -1000000
  | some v => match plR D C1 n 1 with
    | none => -1000000
    | some u => sdI (u - v) D x
def frVl (DD : Nat → rD) (N : Nat → Nat → Nat) (C : Nat → Nat → Nat → Nat → Int32) (x3 : Int32) (t : Nat × Nat) : Int32 := frA (DD t.1) (C 2 t.2) (N 2 t.2) x3
theorem q9_free {x1 x2 x3 V : Int32} (a : tc h z DD N C) (pl : pl_st h 59) (hV : ansE (plGd z x1 x2) (frVl DD N C x3) (-1000000) V) (hq : ∀ h', ax_same cl_F h h' → Ret (some (.int V)) h') : mX9_free g [.ref 0, .int x1, .int x2, .int x3] h Ret := by
  have z0 := a.2.2.2.2.1 0 (by decide)
  have z2 := a.2.2.2.2.1 2 (by decide)
  have no : ∀ h', ax_same cl_F h h' → (∀ t, ¬ plGd z x1 x2 t) → Ret (some (.int (-1000000))) h' := fun h' s n => by rw [← ans_no hV n]; exact hq h' s
  refine eX9_free ⟨a.1.1, q_begun a (fun q => Or.inr ⟨rfl, a.1.1, _, a.1.2.1.1, a.2.2.1.1.1, c_linesAt (s0 := 2) a.2.2.1 (by decide) (by decide) (fun _ => Or.inr ⟨rfl, no h sm_rf (fun t G => in_no q z0 G.1 G.2.1)⟩) (fun k hk ex => Or.inl ⟨_, rfl, no h sm_rf (fun t G => in_no q z0 G.1 G.2.1)⟩)⟩) (fun k hk ex ok h' hs xs hc => Or.inl ⟨_, rfl, ?_⟩)⟩
  have b := tc_cl hs a
  have k2 : k < 2 := by omega
  refine ⟨b.1.1, _, b.1.2.1.1, b.2.2.1.1.1, c_linesAt (s0 := 2) b.2.2.1 (by decide) (by decide) (fun q => Or.inr ⟨rfl, no h' hs (fun t G => in_no q z2 G.2.2.1 G.2.2.2)⟩) (fun w hw ew => Or.inl ⟨_, rfl, ?_⟩)⟩
  have w2 : w < 2 := by omega
  have L := b.2.2.1.2.2.2 2 w (by decide) (by decide) hw
  have p := pl_st_same hs pl
  have hr : 6 + 14 * k + 6 ≤ 59 := by omega
  have hl : lnp 1 2 w + 2 ≤ 59 := by unfold lnp; omega
  have tb0 := sp_t_bd ok (rul (DD k))
  have hV2 : V = frA (DD k) (C 2 w) (N 2 w) x3 := ans_yes (t := (k, w)) hV ⟨hk, ex, hw, ew⟩ (fun t' G' => plGd_u a.2.2.2.2 ⟨hk, ex, hw, ew⟩ G')
  have hwb : ∀ q, q < dH (DD k) → 0 ≤ (sp_w (DD k) (rul (DD k)) q).toInt ∧ (sp_w (DD k) (rul (DD k)) q).toInt ≤ 9 := fun q _ => sp_w_bd ok _ q
  refine ⟨b.1.1, _, b.1.2.1.2.2.2.2.2.2.1, b.1.1, _, b.1.2.1.2.2.2.2.1, p.1, c_planBlindE ok p hc.1 hr hc.2.2 L hl (by omega) hwb (fun h2 s2 e2 => ⟨_, rfl, fun q => absurd rfl q, fun _ => ?_⟩) (fun h2 v s2 e2 bv l1 d2 => ⟨_, rfl, fun _ => ?_, fun q => absurd q (by decide)⟩)⟩
  · have : V = -1000000 := by rw [hV2]; unfold frA; rw [show plR (DD k) (C 2 w) (N 2 w) 0 = none from e2]
    rw [← this]; exact hq h2 (sm_tr hs (pl_cl s2))
  obtain ⟨p2, rc2, od2, L2⟩ := pl_kp s2 p hc.1 hr hc.2.2 L hl
  have x2' := xs_st_same s2 xs
  have fin : ∀ (u : Int32) h3, ax_same plF h2 h3 → V = u → Ret (some (.int u)) h3 := fun u h3 s3 e => by rw [← e]; exact hq h3 (sm_tr hs (pl_cl (sm_tr s2 s3)))
  refine ⟨x2'.1, _, x2'.2.1.2.2.2.2.2.2.1, x2'.1, _, x2'.2.1.2.2.2.2.1, p2.1, c_chooseE ok p2 rc2 hr od2 (Or.inl rfl) L2 hl (by omega) hwb (fun h3 c3 e3 => ⟨_, rfl, fun q => absurd rfl q, fun _ => fin _ h3 (ch_pl c3.1) ?_⟩) (fun h3 u c3 e3 bu v3 d3 => ⟨_, rfl, fun _ => ?_, fun q => absurd q (by decide)⟩)⟩
  · rw [hV2]; unfold frA; rw [show plR (DD k) (C 2 w) (N 2 w) 0 = some v from e2, show plR (DD k) (C 2 w) (N 2 w) 1 = none from e3]
  have x3' := xs_st_same c3.1.1 x2'
  have p3 := pl_st_same c3.1.1 p2
  have o3 := od_at_same (ch_pl c3.1) (by refine ⟨?_, ?_⟩ <;> (intro q; unfold plF at q; omega)) od2
  refine ⟨x3'.1, _, x3'.2.1.2.2.2.2.2.2.1, p3.1, x3'.1, _, x3'.2.1.2.2.2.2.2.2.1, p3.1, x3'.1, _, x3'.2.1.2.2.2.2.1, o3.1.1, ?_⟩
  have sub : Int64.ofInt u - Int64.ofInt v = Int64.ofInt (u - v) := by
    refine ofI_eq (by omega) (by omega) ?_
    rw [i64_sub (by rw [ofI (by omega) (by omega), ofI (by omega) (by omega)]; omega) (by rw [ofI (by omega) (by omega), ofI (by omega) (by omega)]; omega), ofI (by omega) (by omega), ofI (by omega) (by omega)]
  rw [o3.2.2.2.1, c3.1.2 1 (by decide), l1, v3, sub]
  refine c_side (by rw [ofI (by omega) (by omega)]; omega) (t_pos ok) ⟨_, rfl, fin _ h3 (ch_pl c3.1) ?_⟩
  rw [hV2]; unfold frA; rw [show plR (DD k) (C 2 w) (N 2 w) 0 = some v from e2, show plR (DD k) (C 2 w) (N 2 w) 1 = some u from e3]; rfl
end
