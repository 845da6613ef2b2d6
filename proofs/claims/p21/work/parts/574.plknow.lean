section
variable {g : ax_G} {Ret : Option Value → ax_H → Prop} {h : ax_H}
/-- one hour alone -/
def wK (q0 q : Nat) : Int32 := if q = q0 then 1 else 0
theorem wK_bd (q0 q : Nat) : 0 ≤ (wK q0 q).toInt ∧ (wK q0 q).toInt ≤ 9 := by
  unfold wK
  split <;> decide
theorem one_bd : 0 ≤ (1 : Int32).toInt ∧ (1 : Int32).toInt ≤ 108 := by decide
/-- what a choice is worth if that hour is stuck -/
def blK (D : rD) (K : Nat → Int32) (n : Nat) (F : Nat → Nat) (q i : Nat) : Int := scC D K (wK q) 1 i (F i)
/-- the best, knowing the hour -/
def vKn (D : rD) (C1 : Nat → Nat → Int32) (n q : Nat) : Int := (rBx n (dH D) (mayC C1 0) (scC D (fun i => C1 i 0) (wK q) 1) n 0).getD 0
def kwT (D : rD) (C1 : Nat → Nat → Int32) (n : Nat) (w : Nat → Int32) (q : Nat) : Int := (w q).toInt * vKn D C1 n q
def rgr (w : Nat → Int32) (V Bl : Nat → Int) : Nat → Int × Int32
  | 0 => (0, -1)
  | q + 1 => if w q = 0 then rgr w V Bl q else if (rgr w V Bl q).1 < V q - Bl q then (V q - Bl q, nI q) else rgr w V Bl q
theorem rgr_nn (w : Nat → Int32) (V Bl : Nat → Int) : ∀ q, 0 ≤ (rgr w V Bl q).1
  | 0 => Int.le_refl _
  | q + 1 => by
    have i := rgr_nn w V Bl q
    show 0 ≤ (if w q = 0 then rgr w V Bl q else if (rgr w V Bl q).1 < V q - Bl q then (V q - Bl q, nI q) else rgr w V Bl q).1
    split
    · exact i
    · split
      · show 0 ≤ V q - Bl q; omega
      · exact i
theorem rgr_bd {w : Nat → Int32} {V Bl : Nat → Int} {b : Int} (hb : 0 ≤ b) (h : ∀ q, -b ≤ V q - Bl q ∧ V q - Bl q ≤ b) : ∀ q, (rgr w V Bl q).1 ≤ b
  | 0 => hb
  | q + 1 => by
    have i := rgr_bd (w := w) hb h q
    show (if w q = 0 then rgr w V Bl q else if (rgr w V Bl q).1 < V q - Bl q then (V q - Bl q, nI q) else rgr w V Bl q).1 ≤ b
    split
    · exact i
    · split
      · exact (h q).2
      · exact i
section
variable {r l n : Nat} {D : rD} {C1 : Nat → Nat → Int32} {w : Nat → Int32} {t : Int32}
theorem blK_bd (ok : rd_ok D) {K : Nat → Int32} {F : Nat → Nat} {q : Nat} : ∀ m : Nat, -(11583 * (m : Int)) ≤ sumI (blK D K n F q) m ∧ sumI (blK D K n F q) m ≤ 11583 * (m : Int)
  | 0 => by show -(11583 * 0) ≤ (0 : Int) ∧ (0 : Int) ≤ 11583 * 0; omega
  | m + 1 => by
    have i := blK_bd ok (K := K) (F := F) (q := q) m
    have s : -11583 ≤ blK D K n F q m ∧ blK D K n F q m ≤ 11583 := sc_bd ok one_bd (wK_bd q _) m
    show -(11583 * ((m + 1 : Nat) : Int)) ≤ sumI (blK D K n F q) m + blK D K n F q m ∧ sumI (blK D K n F q) m + blK D K n F q m ≤ 11583 * ((m + 1 : Nat) : Int)
    omega
theorem vKn_bd (ok : rd_ok D) (n6 : n ≤ 6) (q : Nat) : -69498 ≤ vKn D C1 n q ∧ vKn D C1 n q ≤ 69498 := by
  unfold vKn
  cases e : rBx n (dH D) (mayC C1 0) (scC D (fun i => C1 i 0) (wK q) 1) n 0 with
  | none => exact ⟨by decide, by decide⟩
  | some v =>
    have := rB_bd (b := 11583) (by decide) n 0 (Nat.le_refl _) (fun i j _ _ => sc_bd ok one_bd (wK_bd q j) i) v e
    show -69498 ≤ v ∧ v ≤ 69498
    omega
theorem c_planBlindE (ok : rd_ok D) (pl : pl_st h 59) (rc : rc_at h r D) (hr : r + 6 ≤ 59) (od : od_at h 55 (dH D) w t) (L : li_at h l 2 n C1) (hl : l + 2 ≤ 59) (ht : 0 ≤ t.toInt ∧ t.toInt ≤ 108) (hw : ∀ q, q < dH D → 0 ≤ (w q).toInt ∧ (w q).toInt ≤ 9) (h0 : ∀ h', ax_same plF h h' → rBx n (dH D) (mayC C1 0) (scC D (fun i => C1 i 0) w t) n 0 = none → Ret (some (.int 0)) h') (h1 : ∀ h' v, ax_same plF h h' → rBx n (dH D) (mayC C1 0) (scC D (fun i => C1 i 0) w t) n 0 = some v → -100000 ≤ v ∧ v ≤ 100000 → ax_l h' 59 1 = Int64.ofInt v → (∀ i, i < n → ax_i h' 60 i = nI (gf n (dH D) (mayC C1 0) (scC D (fun i => C1 i 0) w t) n 0 i)) → Ret (some (.int 1)) h') : mX4_planBlind g [.ref 59, .ref r, .ref 55, .ref l] h Ret := by
  have n6 : n ≤ 6 := L.2.1
  refine eX4_planBlind ⟨pl.1, c_chooseE ok pl rc hr od (Or.inl rfl) L hl ht hw (fun h2 c2 e2 => ⟨_, rfl, fun q => absurd rfl q, fun _ => ⟨Or.inl rfl, h0 h2 (ch_pl c2.1) e2⟩⟩) (fun h2 v c2 e2 b2 v2 d2 => ⟨_, rfl, fun _ => ?_, fun q => absurd q (by decide)⟩)⟩
  have p := pl_st_same c2.1.1 pl
  refine ⟨p.1, p.1, ?_⟩
  intro u4
  have p4 : pl_st u4 59 := p
  refine ⟨p4.1, _, p4.2.1.2.1, p4.1, _, p4.2.1.1, by rw [p4.2.2.1], by rw [p4.2.2.2.1], ⟨by decide, by decide, by decide, by rw [p4.2.2.2.1]; decide, by rw [p4.2.2.1]; decide⟩, Or.inl rfl, by decide, ?_⟩
  intro u7
  refine ⟨Or.inr rfl, h1 u7 v (sm_tr (ch_pl c2.1) (sm_tr (sm_pl ⟨Nat.le_refl _, by decide⟩) (sm_row ⟨by decide, by decide⟩))) e2 b2 ?_ (fun i hi => ?_)⟩
  · show ax_l (ax_pl h2 59 1 (ax_l h2 59 4)) 59 1 = _
    rw [al_pl, if_pos ⟨rfl, rfl⟩]; exact v2
  · show ax_i (ax_row u4 (59 + 1) (va_cpy (ax_i u4 (59 + 2)) (ax_i u4 (59 + 1)) 0 0 6)) 60 i = _
    rw [ai_row, if_pos rfl, cpy0 (by omega)]
    exact d2 i hi
theorem c_blindByE {q : Nat} {F : Nat → Nat} (ok : rd_ok D) (pl : pl_st h 59) (rc : rc_at h r D) (L : li_at h l 2 n C1) (hq12 : q < 12) (hF : ∀ i, i < n → ax_i h 60 i = nI (F i) ∧ F i < 12) (hq : Ret (some (.long (Int64.ofInt (sumI (blK D (fun i => C1 i 0) n F q) n)))) h) : mX4_blindBy g [.ref 59, .ref r, .ref l, .int (nI q)] h Ret := by
  have n6 : n ≤ 6 := L.2.1
  refine uX4_blindBy (fun A hA => vX4_blindBy_0 hA ?_)
  have key : ∀ m i : Nat, i + m = n → ∀ (x4 : Int64) (o7 : Option Value), x4.toInt = sumI (blK D (fun i => C1 i 0) n F q) i → A (6, [some (.ref 59), some (.ref r), some (.ref l), some (.int (nI q)), some (.long x4), none, some (.int (nI i)), o7], [], h, 0, 0) := by
    intro m
    induction m with
    | zero =>
      intro i hi x4 o7 e4
      have ei : i = n := by omega
      subst ei
      have bd := blK_bd (n := i) ok (K := fun i => C1 i 0) (F := F) (q := q) i
      refine vX4_blindBy_6 hA ⟨L.1.1, fun _ => ?_, fun q => ?_⟩
      · rw [ofI_eq (by omega) (by omega) e4]; exact hq
      · rw [L.2.2.1] at q; exact absurd (nI_le (by omega) (by omega)) q
    | succ m ih =>
      intro i hi x4 o7 e4
      have iN : i < n := by omega
      obtain ⟨lc0, -, -⟩ := lc_at (C1 := C1) n6 iN
      have a := wo_bd ok (C1 i 0)
      have b := ex_bd ok (C1 i 0) (sp_mo D (C1 i 0))
      have bd := blK_bd (n := n) ok (K := fun i => C1 i 0) (F := F) (q := q) i
      have K : ∀ (y : Int32) (o7 : Option Value), y.toInt = blK D (fun i => C1 i 0) n F q i → A (6, [some (.ref 59), some (.ref r), some (.ref l), some (.int (nI q)), some (.long (x4 + y.toInt64)), none, some (.int (nI i + 1)), o7], [], h, 0, 0) := fun y o7 ey => by
        rw [← nI_succ]
        refine ih (i + 1) (by omega) _ _ ?_
        have s : -11583 ≤ blK D (fun i => C1 i 0) n F q i ∧ blK D (fun i => C1 i 0) n F q i ≤ 11583 := sc_bd ok one_bd (wK_bd q _) i
        show _ = sumI (blK D (fun i => C1 i 0) n F q) i + blK D (fun i => C1 i 0) n F q i
        rw [i64_add (by rw [i_64, e4, ey]; omega) (by rw [i_64, e4, ey]; omega), i_64, e4, ey]
      have o1 : (1 : Int32).toInt = 1 := rfl
      have z0 : (0 : Int32).toInt = 0 := rfl
      obtain ⟨eF, lF⟩ := hF i iN
      refine vX4_blindBy_6 hA ⟨L.1.1, fun q => ?_, fun _ => ⟨fun q => absurd q (nI_ge (a := i) (b := 6) (by omega) (by decide)), fun _ => ⟨L.1.1, c_lcell (by decide) (by decide) L ⟨_, rfl, rc.1.1, c_worthOf rc ⟨_, rfl, pl.1, _, pl.2.1.1, by rw [pl.2.2.1], by rw [pl.2.2.1]; exact vp_in_nI (by omega) (by decide), fun ne => K _ _ ?_, fun eq => ⟨rc.1.1, c_extraOf rc ⟨_, rfl, K _ _ ?_⟩⟩⟩⟩⟩⟩⟩
      · rw [L.2.2.1] at q; exact absurd q (nI_ge (by omega) (by omega))
      · rw [nI_clamp (by omega), show (59 + 1 : Nat) = 60 from rfl, eF] at ne
        have nq : F i ≠ q := fun e => ne (by rw [e])
        rw [lc0, i32_add (by rw [z0]; omega) (by rw [z0]; omega), z0]
        show _ = (sp_wo D (C1 i 0)).toInt * (1 : Int32).toInt + (sp_ex D (C1 i 0)).toInt * (wK q (F i)).toInt
        rw [show wK q (F i) = 0 from if_neg nq, o1, z0, Int.mul_one, Int.mul_zero]
      · rw [nI_clamp (by omega), show (59 + 1 : Nat) = 60 from rfl, eF] at eq
        have nq : F i = q := (nI_eq (by omega) (by omega)).mp eq
        have b' : -99 ≤ (sp_ex D (C1 i 0)).toInt ∧ (sp_ex D (C1 i 0)).toInt ≤ 99 := b
        rw [lc0, i32_add (by omega) (by omega)]
        show _ = (sp_wo D (C1 i 0)).toInt * (1 : Int32).toInt + (sp_ex D (C1 i 0)).toInt * (wK q (F i)).toInt
        rw [show wK q (F i) = 1 from if_pos nq, o1, Int.mul_one, Int.mul_one]
  exact key n 0 (by omega) _ _ rfl
theorem c_knowE {H i : Nat} (od : od_st h 64) (hH : H ≤ 12) (hi : i < 12) (hq : ∀ h', ax_same (od_F 64) h h' → od_at h' 64 H (wK i) 1 → Ret none h') : mX3_know g [.ref 64, .int (nI H), .int (nI i)] h Ret := by
  refine uX3_know (fun A hA => vX3_know_0 hA ⟨od.1, ?_⟩)
  intro u1
  refine ⟨od.1, ?_⟩
  intro u2
  have key : ∀ m j : Nat, j + m = H → ∀ hh, ax_same (od_F 64) h hh → ax_i hh 64 1 = nI H → ax_i hh 64 2 = 1 → (∀ a, a < j → ax_i hh 65 a = wK i a) → ∀ o1 : Option Value, A (12, [some (.ref 64), o1, some (.int (nI i)), some (.int (nI j))], [], hh, 0, 0) := by
    intro m
    induction m with
    | zero =>
      intro j hj hh s e1 e2 d o1
      have o := od_st_same s od
      refine vX3_know_12 hA ⟨o.1, fun _ => hq hh s ⟨o, hH, e1, e2, fun q hq => d q (by omega)⟩, fun q => ?_⟩
      rw [e1] at q; exact absurd (nI_le (by omega) (by omega)) q
    | succ m ih =>
      intro j hj hh s e1 e2 d o1
      have o := od_st_same s od
      have v12 : vp_in (nI j) (ax_s hh (64 + 1)).2 := by rw [o.2.2]; exact vp_in_nI (by omega) (by decide)
      have s11 : (ax_s hh (64 + 1)).1 = 11 := by rw [o.2.2]
      have K : ∀ v : Int32, v = wK i j → A (12, [some (.ref 64), o1, some (.int (nI i)), some (.int (nI j + 1))], [], ax_pi hh 65 (nI j).toNatClampNeg v, 0, 0) := fun v ev => by
        rw [← nI_succ]
        refine ih (j + 1) (by omega) _ (sm_tr s (sm_pi (Or.inr rfl))) (by rw [ai_pi, if_neg (by omega)]; exact e1) (by rw [ai_pi, if_neg (by omega)]; exact e2) (fun a ha => ?_) _
        rw [nI_clamp (by omega), ai_pi]
        by_cases e : a = j
        · rw [if_pos ⟨rfl, e⟩, e]; exact ev
        · rw [if_neg (fun q => e q.2)]; exact d a (by omega)
      refine vX3_know_12 hA ⟨o.1, fun q => ?_, fun _ => ⟨o.1, _, o.2.1, fun ne => ⟨s11, v12, K _ (if_neg (fun e => ne (by rw [e]))).symm⟩, fun eq => ⟨s11, v12, K _ (if_pos ((nI_eq (by omega) (by omega)).mp eq)).symm⟩⟩⟩
      rw [e1] at q; exact absurd q (nI_ge (by omega) (by omega))
  refine key H 0 (by omega) u2 (sm_tr (sm_pi (Or.inl rfl)) (sm_pi (Or.inl rfl))) ?_ ?_ (fun a ha => absurd ha (Nat.not_lt_zero _)) _
  · show ax_i (ax_pi (ax_pi h 64 1 (nI H)) 64 2 1) 64 1 = nI H
    rw [ai_pi, if_neg (by decide), ai_pi, if_pos ⟨rfl, rfl⟩]
  · show ax_i (ax_pi (ax_pi h 64 1 (nI H)) 64 2 1) 64 2 = 1
    rw [ai_pi, if_pos ⟨rfl, rfl⟩]
/-- what is known of the planner after planBlind -/
def plB (hh : ax_H) (n : Nat) (v : Int) (F : Nat → Nat) : Prop := ax_l hh 59 1 = Int64.ofInt v ∧ ∀ i, i < n → ax_i hh 60 i = nI (F i)
theorem c_planKnowingE {v : Int} {F : Nat → Nat} (ok : rd_ok D) (pl : pl_st h 59) (rc : rc_at h r D) (hr : r + 6 ≤ 59) (od : od_at h 55 (dH D) w t) (hw : ∀ q, q < dH D → 0 ≤ (w q).toInt ∧ (w q).toInt ≤ 9) (L : li_at h l 2 n C1) (hl : l + 2 ≤ 59) (hF : ∀ i, i < n → F i < 12) (fe : ∀ sc : Nat → Nat → Int, ∃ u, rBx n (dH D) (mayC C1 0) sc n 0 = some u) (b1 : plB h n v F) (hq : ∀ h', ax_same plF h h' → plB h' n v F → ax_l h' 59 2 = Int64.ofInt (sumI (kwT D C1 n w) (dH D)) → ax_i h' 59 3 = (rgr w (vKn D C1 n) (fun q => sumI (blK D (fun i => C1 i 0) n F q) n) (dH D)).2 → Ret none h') : mX4_planKnowing g [.ref 59, .ref r, .ref 55, .ref l] h Ret := by
  have n6 : n ≤ 6 := L.2.1
  have H12 := ok.1.2
  obtain ⟨RG, eRG⟩ : ∃ R, R = rgr w (vKn D C1 n) (fun q => sumI (blK D (fun i => C1 i 0) n F q) n) := ⟨_, rfl⟩
  rw [← eRG] at hq
  have rs : ∀ q, RG (q + 1) = if w q = 0 then RG q else if (RG q).1 < vKn D C1 n q - sumI (blK D (fun i => C1 i 0) n F q) n then (vKn D C1 n q - sumI (blK D (fun i => C1 i 0) n F q) n, nI q) else RG q := fun q => by rw [eRG]; rfl
  have df : ∀ q, -200000 ≤ vKn D C1 n q - sumI (blK D (fun i => C1 i 0) n F q) n ∧ vKn D C1 n q - sumI (blK D (fun i => C1 i 0) n F q) n ≤ 200000 := fun q => by
    have h1 := vKn_bd (C1 := C1) ok n6 q
    have h2 := blK_bd (n := n) ok (K := fun i => C1 i 0) (F := F) (q := q) n
    omega
  have rb : ∀ q, 0 ≤ (RG q).1 ∧ (RG q).1 ≤ 200000 := fun q => by
    rw [eRG]
    exact ⟨rgr_nn _ _ _ q, rgr_bd (by decide) df q⟩
  have kb : ∀ q, q ≤ dH D → -(700000 * (q : Int)) ≤ sumI (kwT D C1 n w) q ∧ sumI (kwT D C1 n w) q ≤ 700000 * (q : Int) := fun q => by
    induction q with
    | zero => intro _; show -(700000 * 0) ≤ (0 : Int) ∧ (0 : Int) ≤ 700000 * 0; omega
    | succ q ih =>
      intro hq
      have i1 := ih (by omega)
      have h1 := vKn_bd (C1 := C1) ok n6 q
      have h2 := hw q (by omega)
      have m := abs_mul (a := 9) (b := 69498) (x := (w q).toInt) (y := vKn D C1 n q) (by decide) (by decide) (by omega) h1
      show -(700000 * ((q + 1 : Nat) : Int)) ≤ sumI (kwT D C1 n w) q + kwT D C1 n w q ∧ sumI (kwT D C1 n w) q + kwT D C1 n w q ≤ 700000 * ((q + 1 : Nat) : Int)
      unfold kwT at i1 ⊢
      omega
  refine uX4_planKnowing (fun A hA => vX4_planKnowing_0 hA ⟨pl.1, ?_⟩)
  intro u1
  refine ⟨pl.1, ?_⟩
  intro u2
  have key : ∀ m i : Nat, i + m = dH D → ∀ hh, ax_same plF h hh → plB hh n v F → ax_l hh 59 2 = Int64.ofInt (sumI (kwT D C1 n w) i) → ax_i hh 59 3 = (RG i).2 → ∀ (x4 : Int64) (o7 o8 : Option Value), x4 = Int64.ofInt (RG i).1 → A (16, [some (.ref 59), some (.ref r), some (.ref 55), some (.ref l), some (.long x4), none, some (.int (nI i)), o7, o8], [], hh, 0, 0) := by
    intro m
    induction m with
    | zero =>
      intro i hi hh s c1 c2 c3 x4 o7 o8 e4
      have ei : i = dH D := by omega
      obtain ⟨p, rc, od, L⟩ := pl_kp s pl rc hr od L hl
      refine vX4_planKnowing_16 hA ⟨rc.1.1, fun _ => hq hh s c1 (by rw [← ei]; exact c2) (by rw [← ei]; exact c3), fun q => ?_⟩
      rw [rc.2.2.1.1] at q; exact absurd (nI_le (by omega) (by omega)) q
    | succ m ih =>
      intro i hi hh s c1 c2 c3 x4 o7 o8 e4
      have iH : i < dH D := by omega
      obtain ⟨p, rc1, od1, L1⟩ := pl_kp s pl rc hr od L hl
      have ks : sumI (kwT D C1 n w) (i + 1) = sumI (kwT D C1 n w) i + (w i).toInt * vKn D C1 n i := rfl
      have kbi := kb i (by omega)
      have wb := hw i iH
      have vb := vKn_bd (C1 := C1) ok n6 i
      refine vX4_planKnowing_16 hA ⟨rc1.1.1, fun q => ?_, fun _ => ⟨p.1, _, p.2.1.2.2.2.2, rc1.1.1, p.2.2.2.2.2.2.1, ?_⟩⟩
      · rw [rc1.2.2.1.1] at q; exact absurd q (nI_ge (by omega) (by omega))
      · rw [rc1.2.2.1.1]
        refine c_knowE p.2.2.2.2.2.2 H12 (by omega) (fun h2 s2 kn => ⟨rfl, ?_⟩)
        have sp2 : ax_same plF hh h2 := sm_mono s2 (fun x e => by unfold od_F at e; unfold plF; omega)
        have k1 : ∀ j, ax_l h2 59 j = ax_l hh 59 j := fun j => (s2.2.2.2 59 (by unfold od_F; decide)).2 j
        have k1i : ∀ j, ax_i h2 59 j = ax_i hh 59 j := fun j => (s2.2.2.2 59 (by unfold od_F; decide)).1 j
        have k60 : ∀ j, ax_i h2 60 j = ax_i hh 60 j := fun j => (s2.2.2.2 60 (by unfold od_F; decide)).1 j
        have B2 : plB h2 n v F := ⟨by rw [k1]; exact c1.1, fun j hj => by rw [k60]; exact c1.2 j hj⟩
        obtain ⟨p2, rc2, od2, L2⟩ := pl_kp (sm_tr s sp2) pl rc hr od L hl
        have s11 : (ax_s h2 (55 + 1)).1 = 11 := by rw [od2.1.2.2]
        have v12 : vp_in (nI i) (ax_s h2 (55 + 1)).2 := by rw [od2.1.2.2]; exact vp_in_nI (by omega) (by decide)
        obtain ⟨u, eu⟩ := fe (scC D (fun i => C1 i 0) (wK i) 1)
        have evK : vKn D C1 n i = u := by unfold vKn; rw [eu]; rfl
        refine ⟨od2.1.1, _, od2.1.2.1, s11, v12, fun w0 => ?_, fun w0 => ⟨p2.1, _, p2.2.1.2.2.2.2, p2.1, c_chooseE ok p2 rc2 hr kn (Or.inr rfl) L2 hl one_bd (fun q _ => wK_bd i q) (fun h3 c3 e3 => ?_) (fun h3 u' q3 e3 bu v3 d3 => ⟨_, rfl, fun _ => ?_, fun q => absurd q (by decide)⟩)⟩⟩
        · rw [nI_clamp (by omega), od2.2.2.2.2 i iH] at w0
          rw [← nI_succ]
          have er : RG (i + 1) = RG i := by rw [rs, if_pos w0]
          refine ih (i + 1) (by omega) h2 (sm_tr s sp2) B2 ?_ (by rw [k1i, er]; exact c3) _ _ _ (by rw [er]; exact e4)
          rw [k1, c2, ks, w0, show (0 : Int32).toInt = 0 from rfl, Int.zero_mul, Int.add_zero]
        · rw [e3] at eu; cases eu
        · rw [nI_clamp (by omega), od2.2.2.2.2 i iH] at w0
          have eu' : u' = vKn D C1 n i := by rw [evK]; rw [e3] at eu; cases eu; rfl
          subst eu'
          obtain ⟨p3, rc3, od3, L3⟩ := pl_kp (sm_tr (sm_tr s sp2) (ch_pl q3.1)) pl rc hr od L hl
          have t11 : (ax_s h3 (55 + 1)).1 = 11 := by rw [od3.1.2.2]
          have w12 : vp_in (nI i) (ax_s h3 (55 + 1)).2 := by rw [od3.1.2.2]; exact vp_in_nI (by omega) (by decide)
          refine ⟨rfl, p3.1, od3.1.1, _, od3.1.2.1, t11, w12, p3.1, ?_⟩
          intro z12
          have mm := abs_mul (a := 9) (b := 69498) (x := (w i).toInt) (y := vKn D C1 n i) (by decide) (by decide) (by omega) vb
          have ez : z12 = Int64.ofInt (sumI (kwT D C1 n w) (i + 1)) := by
            have x1 : ((w i).toInt64 * Int64.ofInt (vKn D C1 n i)).toInt = (w i).toInt * vKn D C1 n i := by rw [i64_mul (by rw [i_64, ofI (by omega) (by omega)]; omega) (by rw [i_64, ofI (by omega) (by omega)]; omega), i_64, ofI (by omega) (by omega)]
            refine ofI_eq (by omega) (by omega) ?_
            show (ax_l h3 59 2 + (ax_i h3 (55 + 1) (nI i).toNatClampNeg).toInt64 * ax_l h3 59 4).toInt = _
            rw [nI_clamp (by omega), od3.2.2.2.2 i iH, q3.1.2 2 (by decide), k1, c2, v3, i64_add (by rw [x1, ofI (by omega) (by omega)]; omega) (by rw [x1, ofI (by omega) (by omega)]; omega), x1, ofI (by omega) (by omega), ks]
          refine ⟨p3.1, ?_⟩
          intro u13
          have s13 : ax_same plF h u13 := sm_tr (sm_tr (sm_tr s sp2) (ch_pl q3.1)) (sm_pl ⟨Nat.le_refl _, by decide⟩)
          obtain ⟨p4, rc4, od4, L4⟩ := pl_kp s13 pl rc hr od L hl
          have k60' : ∀ j, ax_i h3 60 j = ax_i h2 60 j := fun j => (q3.1.1.2.2.2 60 (by unfold chF; decide)).1 j
          have B13 : plB u13 n v F := by
            refine ⟨?_, fun j hj => ?_⟩
            · show ax_l (ax_pl h3 59 2 z12) 59 1 = _
              rw [al_pl, if_neg (by decide), q3.1.2 1 (by decide)]; exact B2.1
            · show ax_i h3 60 j = _
              rw [k60']; exact B2.2 j hj
          have l2 : ax_l u13 59 2 = Int64.ofInt (sumI (kwT D C1 n w) (i + 1)) := by
            show ax_l (ax_pl h3 59 2 z12) 59 2 = _
            rw [al_pl, if_pos ⟨rfl, rfl⟩]; exact ez
          have l4 : ax_l u13 59 4 = Int64.ofInt (vKn D C1 n i) := by
            show ax_l (ax_pl h3 59 2 z12) 59 4 = _
            rw [al_pl, if_neg (by decide)]; exact v3
          have i3 : ax_i u13 59 3 = (RG i).2 := by
            show ax_i h3 59 3 = _
            rw [q3.2, k1i]; exact c3
          have dfi := df i
          have rbi := rb i
          have bb := blK_bd (n := n) ok (K := fun i => C1 i 0) (F := F) (q := i) n
          have esub : Int64.ofInt (vKn D C1 n i) - Int64.ofInt (sumI (blK D (fun i => C1 i 0) n F i) n) = Int64.ofInt (vKn D C1 n i - sumI (blK D (fun i => C1 i 0) n F i) n) := by
            refine ofI_eq (by omega) (by omega) ?_
            rw [i64_sub (by rw [ofI (by omega) (by omega), ofI (by omega) (by omega)]; omega) (by rw [ofI (by omega) (by omega), ofI (by omega) (by omega)]; omega), ofI (by omega) (by omega), ofI (by omega) (by omega)]
          refine ⟨p4.1, p4.1, c_blindByE ok p4 rc4 L4 (by omega) (fun j hj => ⟨B13.2 j hj, hF j hj⟩) ⟨_, rfl, fun cle => ?_, fun cgt => ⟨p4.1, ?_⟩⟩⟩
          · rw [l4, esub, e4] at cle
            have le : vKn D C1 n i - sumI (blK D (fun i => C1 i 0) n F i) n ≤ (RG i).1 := by
              have := cmp_le0.mp cle
              rw [ofI (by omega) (by omega), ofI (by omega) (by omega)] at this; exact this
            have er : RG (i + 1) = RG i := by rw [rs, if_neg w0, if_neg (by omega)]
            rw [← nI_succ]
            exact ih (i + 1) (by omega) u13 s13 B13 l2 (by rw [er]; exact i3) _ _ _ (by rw [er]; exact e4)
          · rw [l4, esub, e4] at cgt
            have gt : (RG i).1 < vKn D C1 n i - sumI (blK D (fun i => C1 i 0) n F i) n := by
              refine Int.not_le.mp (fun q => cgt (cmp_le0.mpr ?_))
              rw [ofI (by omega) (by omega), ofI (by omega) (by omega)]; exact q
            have er : RG (i + 1) = (vKn D C1 n i - sumI (blK D (fun i => C1 i 0) n F i) n, nI i) := by rw [rs, if_neg w0, if_pos gt]
            intro u17
            rw [← nI_succ]
            refine ih (i + 1) (by omega) u17 (sm_tr s13 (sm_pi ⟨Nat.le_refl _, by decide⟩)) ⟨B13.1, fun j hj => ?_⟩ l2 ?_ _ _ _ ?_
            · show ax_i (ax_pi u13 59 3 (nI i)) 60 j = _
              rw [ai_pi, if_neg (by omega)]; exact B13.2 j hj
            · show ax_i (ax_pi u13 59 3 (nI i)) 59 3 = _
              rw [ai_pi, if_pos ⟨rfl, rfl⟩, er]
            · rw [er, l4]; exact esub
  refine key (dH D) 0 (by omega) u2 (sm_tr (sm_pl ⟨Nat.le_refl _, by decide⟩) (sm_pi ⟨Nat.le_refl _, by decide⟩)) ⟨?_, fun j hj => ?_⟩ ?_ ?_ _ _ _ ?_
  · show ax_l (ax_pl h 59 2 0) 59 1 = _
    rw [al_pl, if_neg (by decide)]; exact b1.1
  · show ax_i (ax_pi (ax_pl h 59 2 0) 59 3 (-1)) 60 j = _
    rw [ai_pi, if_neg (by omega)]; exact b1.2 j hj
  · show ax_l (ax_pl h 59 2 0) 59 2 = _
    rw [al_pl, if_pos ⟨rfl, rfl⟩]; rfl
  · show ax_i (ax_pi (ax_pl h 59 2 0) 59 3 (-1)) 59 3 = _
    rw [ai_pi, if_pos ⟨rfl, rfl⟩, eRG]; rfl
  · rw [eRG]; rfl
end
end
