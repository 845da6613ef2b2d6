section
variable {g : ax_G} {Ret : Option Value → ax_H → Prop} {h : ax_H} {z : Nat → Nat} {DD : Nat → rD} {N : Nat → Nat → Nat} {C : Nat → Nat → Nat → Nat → Int32} {S : sT} {Im : Nat → Option sT} {tp : Nat → Nat} {B : Nat}
/-! HOPE and DOOM of the reference, exactly -/
theorem c_mplusE {x b : Int64} {L τ c d v w : Int} (s1 : (ax_s h 77).1 = 10) (hL : 0 < L) (hL2 : L < 9223372036854775808) (hτ : 0 < τ) (hc : 0 ≤ c) (hd : 0 ≤ d) (big : (c + d) * L < 9223372036854775807 * τ) (f : fOk (ax_l h 77 56) (ax_l h 77 57) L τ c) (b0 : 0 < b.toInt) (bL' : b.toInt ∣ L) (hx : x.toInt.natAbs * τ ≤ d * b.toInt) (eA : (ax_l h 77 56).toInt * L = v * (ax_l h 77 57).toInt) (ex : x.toInt * L = w * b.toInt) (hq : ∀ h', mr (fun j => j = 56 ∨ j = 57) (fun _ => False) 77 h h' → fOk (ax_l h' 77 56) (ax_l h' 77 57) L τ (c + d) → fXx (ax_l h' 77 56) (ax_l h' 77 57) (v + w) L → Ret none h') : mX10_plus g [.ref 77, .long x, .long b] h Ret := by
  obtain ⟨n0, f1, bg⟩ := f_add hL hL2 hτ hc hd big f b0 bL' hx
  have fx := f_addX hL hL2 hτ hc hd big f b0 bL' hx eA ex
  refine eX10_plus ⟨s1, c_common (by have := f.1; omega) b0 ⟨_, rfl, s1, n0, s1, n0, s1, ?_⟩⟩
  intro u4
  refine ⟨s1, n0, s1, ?_⟩
  intro u5
  have e56 : ax_l u5 77 56 = ax_l h 77 56 * (b / gL (ax_l h 77 57) b) + x * (ax_l h 77 57 / gL (ax_l h 77 57) b) := by
    show ax_l (ax_pl (ax_pl h 77 56 _) 77 57 _) 77 56 = _
    rw [al_pl, if_neg (by decide), al_pl, if_pos ⟨rfl, rfl⟩]
  have e57 : ax_l u5 77 57 = ax_l h 77 57 * (b / gL (ax_l h 77 57) b) := by
    show ax_l (ax_pl (ax_pl h 77 56 _) 77 57 (ax_l (ax_pl h 77 56 _) 77 57 * _)) 77 57 = _
    rw [al_pl, if_pos ⟨rfl, rfl⟩, al_pl, if_neg (by decide)]
  refine ⟨s1, s1, c_common (by rw [e56]; exact bg) (by rw [e57]; exact f1.1) ⟨_, rfl, rfl, s1, ?_⟩⟩
  rw [e56, e57]
  have g0 := gL_ne0 (a := ax_l h 77 56 * (b / gL (ax_l h 77 57) b) + x * (ax_l h 77 57 / gL (ax_l h 77 57) b)) f1.1
  refine ⟨g0, s1, ?_⟩
  intro u9
  refine ⟨rfl, s1, g0, s1, ?_⟩
  intro u10
  have r : mr (fun j => j = 56 ∨ j = 57) (fun _ => False) 77 h u10 := mr_tr (mr_tr (mr_tr (mr_l (Or.inl rfl)) (mr_l (Or.inr rfl))) (mr_l (Or.inl rfl))) (mr_l (Or.inr rfl))
  have d56 : ax_l u10 77 56 = ax_l u5 77 56 / gL (ax_l h 77 56 * (b / gL (ax_l h 77 57) b) + x * (ax_l h 77 57 / gL (ax_l h 77 57) b)) (ax_l h 77 57 * (b / gL (ax_l h 77 57) b)) := by
    show ax_l (ax_pl (ax_pl u5 77 56 _) 77 57 _) 77 56 = _
    rw [al_pl, if_neg (by decide), al_pl, if_pos ⟨rfl, rfl⟩, e56]
  have d57 : ax_l u10 77 57 = ax_l u5 77 57 / gL (ax_l h 77 56 * (b / gL (ax_l h 77 57) b) + x * (ax_l h 77 57 / gL (ax_l h 77 57) b)) (ax_l h 77 57 * (b / gL (ax_l h 77 57) b)) := by
    show ax_l (ax_pl (ax_pl u5 77 56 _) 77 57 (ax_l (ax_pl u5 77 56 _) 77 57 / _)) 77 57 = _
    rw [al_pl, if_pos ⟨rfl, rfl⟩, al_pl, if_neg (by decide)]
  refine hq u10 r ?_ ?_
  · rw [d56, d57, e56, e57]
    exact f_put bg f1
  · rw [d56, d57, e56, e57]
    exact fx_put bg f1.1 f1.2.1 fx
section
variable {hh : ax_H} {k : Nat}
theorem lm_lvm {D : rD} {pu : Nat → Int32} (L : lmE h hh k D pu) : lvm h hh k D := ⟨L.1, pu, L.2⟩
/-- one day of a row -/
theorem day68E {A : ax_S → Prop} (hA : ax_HA (tX10_expect g) Ret A) {i p n c j tot : Nat} {b : Int32} {X Y : Int64} {pu : Nat → Int32} (ok : rd_ok (DD k)) (L : lmE h hh k (DD k) pu) (hc : c < 1000) (hj : j < n) (hn : n ≤ 2) (o12 : Option Value) (K : ∀ h2, lmE h h2 k (DD k) (fun p => pu p + sp_vl (DD k) p (c % dH (DD k))) → lvR hh h2 → A (68, [some (.ref 77), some (.int (nI p)), some (.int (nI n)), some (.int b), some (.int (nI tot)), some (.int (nI i)), some (.long (X * (sp_w (DD k) (sp_po (dP (DD k)) pu) (c % dH (DD k))).toInt64)), none, some (.long (Y * (sp_t (DD k) (sp_po (dP (DD k)) pu)).toInt64)), none, some (.int (nI (c / dH (DD k)))), some (.int (nI (j + 1))), o12], [], h2, 0, 0)) : A (68, [some (.ref 77), some (.int (nI p)), some (.int (nI n)), some (.int b), some (.int (nI tot)), some (.int (nI i)), some (.long X), none, some (.long Y), none, some (.int (nI c)), some (.int (nI j)), o12], [], hh, 0, 0) := by
  have H12 := ok.1.2
  have H2 := ok.1.1
  obtain ⟨s, mc, mw⟩ := L
  have s0 := mc.1.1.1
  have e26 := mc.1.2.2.2.2.1
  obtain ⟨e1, e2⟩ := mo_we mc.1.1
  have ne : ¬ ax_i hh 77 26 = 0 := by rw [e26]; exact nI_ne0 (by omega) (by omega)
  have er : nI c - nI c / ax_i hh 77 26 * ax_i hh 77 26 = nI (c % dH (DD k)) := by rw [e26]; exact pk_rem (by omega) (by omega) (by omega)
  have cm : c % dH (DD k) < dH (DD k) := Nat.mod_lt _ (by omega)
  refine vX10_expect_68 hA ⟨fun q => absurd q (nI_ge (by omega) (by omega)), fun _ => ⟨s0, _, e1, s0, ne, by rw [e2], by rw [er, e2]; exact vp_in_nI (by omega) (by decide), ?_⟩⟩
  intro z13
  refine ⟨s0, s0, ne, s0, ?_⟩
  rw [er]
  refine c_mlive mc cm (fun h2 r2 c2 w2 => ⟨rfl, c2.1.1.1, ?_, ?_⟩)
  · rw [c2.1.2.2.2.2.1]; exact nI_ne0 (by omega) (by omega)
  · rw [c2.1.2.2.2.2.1, pk_div (by omega) (by omega) (by omega), ← nI_succ]
    have ez : z13 = sp_w (DD k) (sp_po (dP (DD k)) pu) (c % dH (DD k)) := by
      show ax_i hh (77 + 16) (nI c - nI c / ax_i hh 77 26 * ax_i hh 77 26).toNatClampNeg = _
      rw [er, nI_clamp (by omega)]; exact mw.1 _ cm
    rw [ez, mw.2.1]
    exact K h2 ⟨sm_tr s (sm_mono r2.1 (fun x e => by unfold md_F; omega)), c2, w2⟩ r2
/-- a row's end: its term goes to the sum -/
theorem fin68E {A : ax_S → Prop} (hA : ax_HA (tX10_expect g) Ret A) {i p n tot : Nat} {b x10 : Int32} {X Y : Int64} {c d v w : Int} {pu : Nat → Int32} (ok : rd_ok (DD k)) (L : lmE h hh k (DD k) pu) (hb : hB 3573 (dP (DD k)) pu) (hp : p < dP (DD k)) (hn : n ≤ 2) (f : fOk (ax_l hh 77 56) (ax_l hh 77 57) (sL (DD k)) (sp_t (DD k) (rul (DD k))).toInt c) (eA : (ax_l hh 77 56).toInt * sL (DD k) = v * (ax_l hh 77 57).toInt) (hc0 : 0 ≤ c) (hd0 : 0 ≤ d) (big : c + d ≤ 42876 * (sp_t (DD k) (rul (DD k))).toInt) (X0 : 0 ≤ X.toInt ∧ X.toInt ≤ 10000) (Y0 : 0 < Y.toInt) (YL : Y.toInt ∣ sL (DD k)) (hx : X.toInt * 3573 * (sp_t (DD k) (rul (DD k))).toInt ≤ d * Y.toInt) (ex : X.toInt * (sp_me (dP (DD k)) pu (nI p) b).toInt * sL (DD k) = w * Y.toInt) (o12 : Option Value) (K : ∀ h2, lvm h h2 k (DD k) → fOk (ax_l h2 77 56) (ax_l h2 77 57) (sL (DD k)) (sp_t (DD k) (rul (DD k))).toInt (c + d) → fXx (ax_l h2 77 56) (ax_l h2 77 57) (v + w) (sL (DD k)) → ∀ o6 o7 o8 o9 o10 o11 o12 : Option Value, A (44, [some (.ref 77), some (.int (nI p)), some (.int (nI n)), some (.int b), some (.int (nI tot)), some (.int (nI i + 1)), o6, o7, o8, o9, o10, o11, o12], [], h2, 0, 0)) : A (68, [some (.ref 77), some (.int (nI p)), some (.int (nI n)), some (.int b), some (.int (nI tot)), some (.int (nI i)), some (.long X), none, some (.long Y), none, some (.int x10), some (.int (nI n)), o12], [], hh, 0, 0) := by
  have tb0 := sp_t_bd ok (rul (DD k))
  have L0 := sL_bd ok
  have mc := L.2.1
  have mw := L.2.2
  have s0 := mc.1.1.1
  have P6 := ok.2.1
  have mbd := me_bd (x := b) (b := 3573) (by decide) P6 hp hb
  have mX : ((X * (sp_me (dP (DD k)) pu (nI p) b).toInt64).toInt.natAbs : Int) * (sp_t (DD k) (rul (DD k))).toInt ≤ d * Y.toInt := by
    have h1 := bL_mul (a := X.toInt) (b := 3573) X0.1 (by decide) ⟨by omega, Int.le_refl _⟩ (bL_32 mbd) (by omega)
    unfold bL at h1
    have h2 : ((X * (sp_me (dP (DD k)) pu (nI p) b).toInt64).toInt.natAbs : Int) ≤ X.toInt * 3573 := by omega
    exact Int.le_trans (Int.mul_le_mul_of_nonneg_right h2 (Int.le_of_lt tb0.1)) hx
  have ab := abs_mul (a := 10000) (b := 3573) (x := X.toInt) (y := (sp_me (dP (DD k)) pu (nI p) b).toInt) (by decide) (by decide) (by omega) mbd
  have eX : (X * (sp_me (dP (DD k)) pu (nI p) b).toInt64).toInt = X.toInt * (sp_me (dP (DD k)) pu (nI p) b).toInt := by rw [i64_mul (by rw [i_64]; omega) (by rw [i_64]; omega), i_64]
  have pl : ∀ (m : Int64) (K2 : Option Value → ax_H → Prop), m = (sp_me (dP (DD k)) pu (nI p) b).toInt64 → (∀ h2, lvm h h2 k (DD k) → fOk (ax_l h2 77 56) (ax_l h2 77 57) (sL (DD k)) (sp_t (DD k) (rul (DD k))).toInt (c + d) → fXx (ax_l h2 77 56) (ax_l h2 77 57) (v + w) (sL (DD k)) → K2 none h2) → mX10_plus g [.ref 77, .long (X * m), .long Y] hh K2 := fun m K2 em hK => by
    rw [em]
    exact c_mplusE s0 L0.1 (by omega) tb0.1 hc0 hd0 (s_big ok tb0.1 big) f Y0 YL mX eA (by rw [eX]; exact ex) (fun h2 r2 f2 x2 => hK h2 (lvm_mr (lm_lvm L) r2 (fun j hj => by omega) (fun a ha => ha.elim)) f2 x2)
  obtain ⟨e1, e2⟩ := mo_pu mc.1.1
  refine vX10_expect_68 hA ⟨fun _ => ⟨fun b0 => ⟨s0, _, e1, by rw [e2], by rw [e2]; exact vp_in_nI (by omega) (by decide), s0, pl _ _ ?_ (fun h2 L2 f2 x2 => ⟨rfl, K h2 L2 f2 x2 _ _ _ _ _ _ _⟩)⟩, fun b0 => ⟨s0, fun q => ⟨s0, pl _ _ ?_ (fun h2 L2 f2 x2 => ⟨rfl, K h2 L2 f2 x2 _ _ _ _ _ _ _⟩)⟩, fun q => ⟨s0, pl _ _ ?_ (fun h2 L2 f2 x2 => ⟨rfl, K h2 L2 f2 x2 _ _ _ _ _ _ _⟩)⟩⟩⟩, fun q => absurd (nI_le (Nat.le_refl n) (by omega)) q⟩
  · rw [nI_clamp (by omega), mc.2.1 p hp]
    unfold sp_me
    rw [if_pos b0, if_neg (by rintro (q | q); exact nI_pos (by omega) q; exact nI_ge hp (by omega) q), nI_clamp (by omega)]
  · rw [mw.2.2] at q
    unfold sp_me
    rw [if_neg b0, if_neg q]; rfl
  · rw [mw.2.2] at q
    unfold sp_me
    rw [if_neg b0, if_pos q]; rfl
theorem c_expectE {n p : Nat} {b : Int32} (ok : rd_ok (DD k)) (L : lvm h hh k (DD k)) (hn : n ≤ 2) (hp : p < dP (DD k)) (hq : ∀ h2, lvm h h2 k (DD k) → fXx (ax_l h2 77 56) (ax_l h2 77 57) (hvx (DD k) p n b) (sL (DD k)) → Ret none h2) : mX10_expect g [.ref 77, .int (nI p), .int (nI n), .int b] hh Ret := by
  have H12 := ok.1.2
  have H2 := ok.1.1
  have P6 := ok.2.1
  have tb0 := sp_t_bd ok (rul (DD k))
  obtain ⟨W, hW, hT⟩ := w_sum ok (rul (DD k))
  have s12 := sN_9 (fun q => (hW q).2) (dH (DD k))
  have T0 : (sp_t (DD k) (rul (DD k))).toInt = (sNn W (dH (DD k)) : Int) := by rw [hT, nI_toInt (by omega)]
  have eWx : ∀ q, wx0 (DD k) q = (W q : Int) := fun q => by unfold wx0; rw [(hW q).1, nI_toInt (by have := (hW q).2; omega)]
  have hb0 : hB 999 (dP (DD k)) (dpu (DD k)) := fun p hp => by have := ok.2.2.2.2.1 p hp; omega
  obtain ⟨pu0, mc0, -⟩ := L.2
  have s00 := mc0.1.1.1
  refine uX10_expect (fun A hA => vX10_expect_0 hA ⟨s00, ?_⟩)
  intro u1
  refine ⟨s00, ?_⟩
  intro u2
  have Lu : lvm h u2 k (DD k) := lvm_mr L (mr_tr (mr_l (J := fun j => j = 56 ∨ j = 57) (F := fun _ => False) (Or.inl rfl)) (mr_l (Or.inr rfl))) (fun j hj => by omega) (fun a ha => ha.elim)
  have e26 : ax_i u2 77 26 = nI (dH (DD k)) := mc0.1.2.2.2.2.1
  have e0 : ax_l u2 77 56 = 0 := by show ax_l (ax_pl (ax_pl hh 77 56 0) 77 57 1) 77 56 = 0; rw [al_pl, if_neg (by decide), al_pl, if_pos ⟨rfl, rfl⟩]
  have e1 : ax_l u2 77 57 = 1 := by show ax_l (ax_pl (ax_pl hh 77 56 0) 77 57 1) 77 57 = 1; rw [al_pl, if_pos ⟨rfl, rfl⟩]
  have f0 : ∀ c, c = (0 : Int) → fOk (ax_l u2 77 56) (ax_l u2 77 57) (sL (DD k)) (sp_t (DD k) (rul (DD k))).toInt c := fun c hc => by
    rw [e0, e1, hc]
    refine ⟨by decide, ⟨sL (DD k), by rw [show (1 : Int64).toInt = 1 from rfl, Int.one_mul]⟩, ?_⟩
    show (0 : Int) * _ ≤ (0 : Int) * _
    rw [Int.zero_mul, Int.zero_mul]; exact Int.le_refl _
  have x0 : fXx (ax_l u2 77 56) (ax_l u2 77 57) (sumI (rwx (DD k) p n b) 0) (sL (DD k)) := by rw [e0, e1]; exact fx_0
  have one : (1 : Int64).toInt = 1 := rfl
  -- a start of a row
  have go : ∀ (tot i : Nat) (c d v : Int), 0 ≤ c → 0 ≤ d → c + d ≤ 42876 * (sp_t (DD k) (rul (DD k))).toInt → i < 1000 → (n = 0 → d = 3573 * (sp_t (DD k) (rul (DD k))).toInt) → (1 ≤ n → d = 3573 * (W (i % dH (DD k)) : Int)) → ∀ h3, lvm h h3 k (DD k) → fOk (ax_l h3 77 56) (ax_l h3 77 57) (sL (DD k)) (sp_t (DD k) (rul (DD k))).toInt c → (ax_l h3 77 56).toInt * sL (DD k) = v * (ax_l h3 77 57).toInt → (∀ h2, lvm h h2 k (DD k) → fOk (ax_l h2 77 56) (ax_l h2 77 57) (sL (DD k)) (sp_t (DD k) (rul (DD k))).toInt (c + d) → fXx (ax_l h2 77 56) (ax_l h2 77 57) (v + rwx (DD k) p n b i) (sL (DD k)) → ∀ o6 o7 o8 o9 o10 o11 o12 : Option Value, A (44, [some (.ref 77), some (.int (nI p)), some (.int (nI n)), some (.int b), some (.int (nI tot)), some (.int (nI i + 1)), o6, o7, o8, o9, o10, o11, o12], [], h2, 0, 0)) → ∀ o12 : Option Value, mX10_begin g [.ref 77] h3 (fun v4 h3 => v4 = none ∧ A (68, [some (.ref 77), some (.int (nI p)), some (.int (nI n)), some (.int b), some (.int (nI tot)), some (.int (nI i)), some (.long (1 : Int64)), none, some (.long (1 : Int64)), none, some (.int (nI i)), some (.int 0), o12], [], h3, 0, 0)) := by
    intro tot i c d v c0 d0 cd hi dn0 dn1 h3 L3 F3 E3 K o12
    refine c_mbegin ok L3 (fun h4 r4 s4 hm => ⟨rfl, ?_⟩)
    have L4 : lmE h h4 k (DD k) (dpu (DD k)) := lm_hm s4 hm
    have F4 : fOk (ax_l h4 77 56) (ax_l h4 77 57) (sL (DD k)) (sp_t (DD k) (rul (DD k))).toInt c := by rw [(r4.2 56 (by decide)).2, (r4.2 57 (by decide)).2]; exact F3
    have E4 : (ax_l h4 77 56).toInt * sL (DD k) = v * (ax_l h4 77 57).toInt := by rw [(r4.2 56 (by decide)).2, (r4.2 57 (by decide)).2]; exact E3
    rcases (by omega : n = 0 ∨ n = 1 ∨ n = 2) with rfl | rfl | rfl
    · refine fin68E hA (w := rwx (DD k) p 0 b i) ok L4 (fun p hp => by have := hb0 p hp; omega) hp (by decide) F4 E4 c0 d0 cd (by rw [one]; decide) (by decide) ⟨sL (DD k), by rw [one, Int.one_mul]⟩ (by rw [one, dn0 rfl]; omega) ?_ _ K
      rw [one, Int.one_mul, Int.mul_one]
      unfold rwx
      rw [if_pos rfl]
      rfl
    · refine day68E (n := 1) (j := 0) hA ok L4 hi (by decide) (by decide) _ (fun h5 L5 r5 => ?_)
      have hbu := hB_vl (q := i % dH (DD k)) ok (by decide) hb0
      have F5 : fOk (ax_l h5 77 56) (ax_l h5 77 57) (sL (DD k)) (sp_t (DD k) (rul (DD k))).toInt c := by rw [(r5.2 56 (by decide)).2, (r5.2 57 (by decide)).2]; exact F4
      have E5 : (ax_l h5 77 56).toInt * sL (DD k) = v * (ax_l h5 77 57).toInt := by rw [(r5.2 56 (by decide)).2, (r5.2 57 (by decide)).2]; exact E4
      have w9 := (hW (i % dH (DD k))).2
      have eX : (1 * (sp_w (DD k) (sp_po (dP (DD k)) (dpu (DD k))) (i % dH (DD k))).toInt64).toInt = (W (i % dH (DD k)) : Int) := by
        rw [Int64.one_mul, i_64]; exact eWx _
      have eY : (1 * (sp_t (DD k) (sp_po (dP (DD k)) (dpu (DD k)))).toInt64).toInt = (sp_t (DD k) (rul (DD k))).toInt := by rw [Int64.one_mul, i_64]; rfl
      refine fin68E hA (w := rwx (DD k) p 1 b i) ok L5 (fun p hp => by have := hbu p hp; omega) hp (by decide) F5 E5 c0 d0 cd (by rw [eX]; omega) (by rw [eY]; exact tb0.1) (by rw [eY]; exact Int.dvd_mul_right _ _) ?_ ?_ _ K
      · rw [eX, eY, dn1 (by decide), Int.mul_comm (W (i % dH (DD k)) : Int) 3573]
        exact Int.le_refl _
      · rw [eX, eY, ← eWx]
        show wx0 (DD k) (i % dH (DD k)) * mx1 (DD k) p b (i % dH (DD k)) * sL (DD k) = rwx (DD k) p 1 b i * tx0 (DD k)
        rw [show rwx (DD k) p 1 b i = wx0 (DD k) (i % dH (DD k)) * mx1 (DD k) p b (i % dH (DD k)) * ux0 (DD k) from by unfold rwx; rw [if_neg (by decide), if_pos rfl]; rfl, ux0_e (DD k)]
        ac_rfl
    · refine day68E (n := 2) (j := 0) hA ok L4 hi (by decide) (by decide) _ (fun h5 L5 r5 => ?_)
      have hbu := hB_vl (q := i % dH (DD k)) ok (by decide) hb0
      have F5 : fOk (ax_l h5 77 56) (ax_l h5 77 57) (sL (DD k)) (sp_t (DD k) (rul (DD k))).toInt c := by rw [(r5.2 56 (by decide)).2, (r5.2 57 (by decide)).2]; exact F4
      have E5 : (ax_l h5 77 56).toInt * sL (DD k) = v * (ax_l h5 77 57).toInt := by rw [(r5.2 56 (by decide)).2, (r5.2 57 (by decide)).2]; exact E4
      refine day68E (n := 2) (j := 1) hA ok L5 (Nat.lt_of_le_of_lt (Nat.div_le_self _ _) hi) (by decide) (by decide) _ (fun h7 L7 r7 => ?_)
      have hbv := hB_vl (q := i / dH (DD k) % dH (DD k)) ok (by decide) hbu
      have F7 : fOk (ax_l h7 77 56) (ax_l h7 77 57) (sL (DD k)) (sp_t (DD k) (rul (DD k))).toInt c := by rw [(r7.2 56 (by decide)).2, (r7.2 57 (by decide)).2]; exact F5
      have E7 : (ax_l h7 77 56).toInt * sL (DD k) = v * (ax_l h7 77 57).toInt := by rw [(r7.2 56 (by decide)).2, (r7.2 57 (by decide)).2]; exact E5
      obtain ⟨W2, hW2, hT2⟩ := w_sum ok (pox (DD k) (i % dH (DD k)))
      have eW2x : ∀ q, wx1 (DD k) (i % dH (DD k)) q = (W2 q : Int) := fun q => by unfold wx1; rw [(hW2 q).1, nI_toInt (by have := (hW2 q).2; omega)]
      have s22 := sN_9 (fun q => (hW2 q).2) (dH (DD k))
      have tb2 := sp_t_bd ok (pox (DD k) (i % dH (DD k)))
      have T2 : (sp_t (DD k) (pox (DD k) (i % dH (DD k)))).toInt = (sNn W2 (dH (DD k)) : Int) := by rw [hT2, nI_toInt (by omega)]
      have w9 := (hW (i % dH (DD k))).2
      have v9 := (hW2 (i / dH (DD k) % dH (DD k))).2
      have vT : W2 (i / dH (DD k) % dH (DD k)) ≤ sNn W2 (dH (DD k)) := by
        have h1 : sNn W2 (i / dH (DD k) % dH (DD k) + 1) ≤ sNn W2 (dH (DD k)) := sNn_mono (Nat.mod_lt _ (by omega))
        have h2 : sNn W2 (i / dH (DD k) % dH (DD k) + 1) = sNn W2 (i / dH (DD k) % dH (DD k)) + W2 (i / dH (DD k) % dH (DD k)) := rfl
        omega
      have eA : (sp_w (DD k) (rul (DD k)) (i % dH (DD k))).toInt64.toInt = (W (i % dH (DD k)) : Int) := by rw [i_64]; exact eWx _
      have eB : (sp_w (DD k) (pox (DD k) (i % dH (DD k))) (i / dH (DD k) % dH (DD k))).toInt64.toInt = (W2 (i / dH (DD k) % dH (DD k)) : Int) := by rw [i_64]; exact eW2x _
      have ab := abs_mul (a := 9) (b := 9) (x := (W (i % dH (DD k)) : Int)) (y := (W2 (i / dH (DD k) % dH (DD k)) : Int)) (by decide) (by decide) (by omega) (by omega)
      have nn : (0 : Int) ≤ (W (i % dH (DD k)) : Int) * (W2 (i / dH (DD k) % dH (DD k)) : Int) := Int.mul_nonneg (by omega) (by omega)
      have tt := abs_mul (a := 108) (b := 108) (x := (sp_t (DD k) (rul (DD k))).toInt) (y := (sp_t (DD k) (pox (DD k) (i % dH (DD k)))).toInt) (by decide) (by decide) (by omega) (by omega)
      have eX : (1 * (sp_w (DD k) (sp_po (dP (DD k)) (dpu (DD k))) (i % dH (DD k))).toInt64 * (sp_w (DD k) (sp_po (dP (DD k)) (fun p => dpu (DD k) p + sp_vl (DD k) p (i % dH (DD k)))) (i / dH (DD k) % dH (DD k))).toInt64).toInt = (W (i % dH (DD k)) : Int) * (W2 (i / dH (DD k) % dH (DD k)) : Int) := by
        show (1 * (sp_w (DD k) (rul (DD k)) (i % dH (DD k))).toInt64 * (sp_w (DD k) (pox (DD k) (i % dH (DD k))) (i / dH (DD k) % dH (DD k))).toInt64).toInt = _
        rw [Int64.one_mul, i64_mul (by rw [eA, eB]; omega) (by rw [eA, eB]; omega), eA, eB]
      have eY : (1 * (sp_t (DD k) (sp_po (dP (DD k)) (dpu (DD k)))).toInt64 * (sp_t (DD k) (sp_po (dP (DD k)) (fun p => dpu (DD k) p + sp_vl (DD k) p (i % dH (DD k))))).toInt64).toInt = (sp_t (DD k) (rul (DD k))).toInt * (sp_t (DD k) (pox (DD k) (i % dH (DD k)))).toInt := by
        show (1 * (sp_t (DD k) (rul (DD k))).toInt64 * (sp_t (DD k) (pox (DD k) (i % dH (DD k)))).toInt64).toInt = _
        rw [Int64.one_mul, i64_mul (by rw [i_64, i_64]; omega) (by rw [i_64, i_64]; omega), i_64, i_64]
      refine fin68E hA (w := rwx (DD k) p 2 b i) ok L7 hbv hp (by decide) F7 E7 c0 d0 cd (by rw [eX]; omega) (by rw [eY]; exact Int.mul_pos tb0.1 tb2.1) (by rw [eY]; exact tx1_dvd ok (by omega) _) ?_ ?_ _ K
      · rw [eX, eY, dn1 (by decide), T2]
        have g1 : (W (i % dH (DD k)) : Int) * (W2 (i / dH (DD k) % dH (DD k)) : Int) ≤ (W (i % dH (DD k)) : Int) * (sNn W2 (dH (DD k)) : Int) := Int.mul_le_mul_of_nonneg_left (by omega) (by omega)
        have g2 := Int.mul_le_mul_of_nonneg_right (Int.mul_le_mul_of_nonneg_right g1 (show (0 : Int) ≤ 3573 by decide)) (Int.le_of_lt tb0.1)
        refine Int.le_trans g2 (Int.le_of_eq ?_)
        ac_rfl
      · rw [eX, eY, ← eWx, ← eW2x]
        show wx0 (DD k) (i % dH (DD k)) * wx1 (DD k) (i % dH (DD k)) (i / dH (DD k) % dH (DD k)) * mx2 (DD k) p b (i % dH (DD k)) (i / dH (DD k) % dH (DD k)) * sL (DD k) = rwx (DD k) p 2 b i * (tx0 (DD k) * tx1 (DD k) (i % dH (DD k)))
        rw [show rwx (DD k) p 2 b i = wx0 (DD k) (i % dH (DD k)) * wx1 (DD k) (i % dH (DD k)) (i / dH (DD k) % dH (DD k)) * mx2 (DD k) p b (i % dH (DD k)) (i / dH (DD k) % dH (DD k)) * ux1 (DD k) (i % dH (DD k)) from by unfold rwx; rw [if_neg (by decide), if_neg (by decide)]; rfl]
        have e := ux1_e ok (by omega) (i % dH (DD k))
        rw [e]
        ac_rfl
  have k44 : ∀ (tot : Nat) (cc dd : Nat → Int), tot ≤ 144 → tot = rwn (DD k) n → (∀ i, i < tot → 0 ≤ cc i ∧ 0 ≤ dd i ∧ cc i + dd i ≤ 42876 * (sp_t (DD k) (rul (DD k))).toInt ∧ cc (i + 1) = cc i + dd i ∧ (n = 0 → dd i = 3573 * (sp_t (DD k) (rul (DD k))).toInt) ∧ (1 ≤ n → dd i = 3573 * (W (i % dH (DD k)) : Int))) → ∀ f i : Nat, i + f = tot → ∀ h3, lvm h h3 k (DD k) → fOk (ax_l h3 77 56) (ax_l h3 77 57) (sL (DD k)) (sp_t (DD k) (rul (DD k))).toInt (cc i) → fXx (ax_l h3 77 56) (ax_l h3 77 57) (sumI (rwx (DD k) p n b) i) (sL (DD k)) → ∀ o6 o7 o8 o9 o10 o11 o12 : Option Value, A (44, [some (.ref 77), some (.int (nI p)), some (.int (nI n)), some (.int b), some (.int (nI tot)), some (.int (nI i)), o6, o7, o8, o9, o10, o11, o12], [], h3, 0, 0) := by
    intro tot cc dd ht htn hcc f
    induction f with
    | zero =>
      intro i hi h3 L3 F3 X3 o6 o7 o8 o9 o10 o11 o12
      refine vX10_expect_44 hA ⟨fun _ => hq h3 L3 ?_, fun q => absurd (nI_le (by omega) (by omega)) q⟩
      rw [← hvx_rows ok, ← htn, show tot = i by omega]; exact X3
    | succ f ih =>
      intro i hi h3 L3 F3 X3 o6 o7 o8 o9 o10 o11 o12
      obtain ⟨pu3, mc3, -⟩ := L3.2
      obtain ⟨c1, c2, c3, c4, c5, c6⟩ := hcc i (by omega)
      refine vX10_expect_44 hA ⟨fun q => absurd q (nI_ge (by omega) (by omega)), fun _ => ⟨mc3.1.1.1, go tot i (cc i) (dd i) _ c1 c2 c3 (by omega) c5 c6 h3 L3 F3 X3.2.2.1 (fun h2 L2 F2 X2 p6 p7 p8 p9 p10 p11 p12 => ?_) _⟩⟩
      rw [← nI_succ]
      exact ih (i + 1) (by omega) h2 L2 (by rw [c4]; exact F2) X2 _ _ _ _ _ _ _
  have HH : dH (DD k) * dH (DD k) ≤ 144 := Nat.mul_le_mul H12 H12
  have HS : dH (DD k) * sNn W (dH (DD k)) ≤ 12 * sNn W (dH (DD k)) := Nat.mul_le_mul_right _ H12
  have cp : 1 ≤ n → ∀ tot, tot ≤ dH (DD k) * dH (DD k) → ∀ i, i < tot → 0 ≤ 3573 * (oM W (dH (DD k)) i : Int) ∧ 0 ≤ 3573 * (W (i % dH (DD k)) : Int) ∧ 3573 * (oM W (dH (DD k)) i : Int) + 3573 * (W (i % dH (DD k)) : Int) ≤ 42876 * (sp_t (DD k) (rul (DD k))).toInt ∧ 3573 * (oM W (dH (DD k)) (i + 1) : Int) = 3573 * (oM W (dH (DD k)) i : Int) + 3573 * (W (i % dH (DD k)) : Int) ∧ (n = 0 → 3573 * (W (i % dH (DD k)) : Int) = 3573 * (sp_t (DD k) (rul (DD k))).toInt) ∧ (1 ≤ n → 3573 * (W (i % dH (DD k)) : Int) = 3573 * (W (i % dH (DD k)) : Int)) := fun n1 tot ht i hi => by
    have e := oM_succ (W := W) (H := dH (DD k)) (i := i) (by omega)
    have l := oM_le (W := W) (H := dH (DD k)) (i := i + 1) (by omega) (by omega)
    refine ⟨by omega, by omega, by rw [T0]; omega, by omega, fun q => by omega, fun _ => rfl⟩
  have o0 : 3573 * (oM W (dH (DD k)) 0 : Int) = 0 := by
    have : oM W (dH (DD k)) 0 = 0 := by unfold oM; rw [Nat.zero_div, Nat.zero_mod, Nat.zero_mul]; rfl
    rw [this]; rfl
  refine ⟨fun q0 => ⟨fun q1 => ⟨s00, s00, ?_⟩, fun q1 => ⟨s00, ?_⟩⟩, fun q0 => ?_⟩
  · have n0 : n ≠ 0 := fun e => q0 (by rw [e]; exact nI_0)
    have n1 : n ≠ 1 := fun e => q1 (by rw [e]; rfl)
    rw [e26, pk_mul]
    exact k44 (dH (DD k) * dH (DD k)) (fun i => 3573 * (oM W (dH (DD k)) i : Int)) (fun i => 3573 * (W (i % dH (DD k)) : Int)) HH (by unfold rwn; rw [if_neg n0, if_neg n1]) (cp (by omega) _ (Nat.le_refl _)) (dH (DD k) * dH (DD k)) 0 (by omega) u2 Lu (f0 _ o0) x0 _ _ _ _ _ _ _
  · have n0 : n ≠ 0 := fun e => q0 (by rw [e]; exact nI_0)
    have n1 : n = 1 := (nI_eq (by omega) (by decide)).mp (q1.trans rfl)
    have hh1 : dH (DD k) ≤ dH (DD k) * dH (DD k) := Nat.le_mul_of_pos_left _ (by omega)
    rw [e26]
    exact k44 (dH (DD k)) (fun i => 3573 * (oM W (dH (DD k)) i : Int)) (fun i => 3573 * (W (i % dH (DD k)) : Int)) (by omega) (by unfold rwn; rw [if_neg n0, if_pos n1]) (cp (by omega) _ hh1) (dH (DD k)) 0 (by omega) u2 Lu (f0 _ o0) x0 _ _ _ _ _ _ _
  · have n0 : n = 0 := (nI_eq (by omega) (by decide)).mp (q0.trans nI_0.symm)
    refine k44 1 (fun i => 3573 * (sp_t (DD k) (rul (DD k))).toInt * (i : Int)) (fun _ => 3573 * (sp_t (DD k) (rul (DD k))).toInt) (by decide) (by unfold rwn; rw [if_pos n0]) (fun i hi => ?_) 1 0 (by decide) u2 Lu (f0 _ (by show 3573 * (sp_t (DD k) (rul (DD k))).toInt * ((0 : Nat) : Int) = 0; rw [Int.natCast_zero, Int.mul_zero])) x0 _ _ _ _ _ _ _
    have ei : i = 0 := by omega
    subst ei
    refine ⟨by show 0 ≤ 3573 * (sp_t (DD k) (rul (DD k))).toInt * ((0 : Nat) : Int); rw [Int.natCast_zero, Int.mul_zero]; exact Int.le_refl _, by show 0 ≤ 3573 * (sp_t (DD k) (rul (DD k))).toInt; omega, ?_, ?_, fun _ => rfl, fun q => by omega⟩
    · show 3573 * (sp_t (DD k) (rul (DD k))).toInt * ((0 : Nat) : Int) + 3573 * (sp_t (DD k) (rul (DD k))).toInt ≤ _
      rw [Int.natCast_zero, Int.mul_zero]; omega
    · show 3573 * (sp_t (DD k) (rul (DD k))).toInt * ((1 : Nat) : Int) = 3573 * (sp_t (DD k) (rul (DD k))).toInt * ((0 : Nat) : Int) + 3573 * (sp_t (DD k) (rul (DD k))).toInt
      rw [Int.natCast_zero, Int.mul_zero, Int.natCast_one, Int.mul_one]; omega
end
theorem q10_hope {x1 x2 x3 x4 : Int32} {V : Int64} (a : tc h z DD N C) (hV : ansE (hG z DD x1 x2 x3) (hVl DD 0 x4) (-1000000) V) (hq : ∀ h', ax_same md_F h h' → Ret (some (.long V)) h') : mX10_hope g [.ref 77, .int x1, .int x2, .int x3, .int x4] h Ret := by
  obtain ⟨a1, T1, hs1⟩ := q_code (v := 0) a.2.1 a.2.2.2.1
  refine eX10_hope ⟨a.2.1.1, ?_⟩
  intro h1
  refine c_min ⟨_, rfl, fun q2 => ?_, fun q2 => ⟨a1.1, q_handOne a1 T1 a.2.2.2.2 (fun h' hs no => ⟨_, rfl, fun q => absurd rfl q, fun _ => ?_⟩) (fun k p hk ex ok hp ep h' hs hm => ⟨_, rfl, fun _ => ⟨hm.1.1.1.1, ?_⟩, fun q => absurd q (by decide)⟩)⟩⟩
  · rw [← ans_no hV (fun t G => of_decide_eq_false (b2i_0.mp q2) ⟨by rw [G.2.2.2.2.2]; exact nI_pos' (by have := G.2.2.2.2.1; omega), by rw [G.2.2.2.2.2]; exact nI_le (b := 2) G.2.2.2.2.1 (by decide)⟩)]
    exact hq _ hs1
  · rw [← ans_no hV (fun t G => by have := no t.1 G.1 G.2.1; rw [G.2.2.2.1, sp_in_nI (by have := (a.2.2.2.2.2.1 t.1 G.1).2.1; omega) G.2.2.1] at this; cases this)]
    exact hq _ (sm_tr hs1 hs)
  · subst ep
    obtain ⟨n, _, hn, rfl⟩ := i_rng (a := 0) (b := 2) (by decide) (by decide) (of_decide_eq_true (b2i_n0.mp q2)).1 (of_decide_eq_true (b2i_n0.mp q2)).2
    have G : hG z DD x1 (nI p) (nI n) (k, p, n) := ⟨hk, ex, hp, rfl, hn, rfl⟩
    refine c_expectE ok (lvm_hm (sm_tr hs1 hs) hm) hn hp (fun h2 L2 X => ⟨rfl, ?_⟩)
    obtain ⟨pu, mc, -⟩ := L2.2
    have eV : V = if x4 = 0 then ax_l h2 77 56 else ax_l h2 77 57 := (ans_yes hV G (fun t' G' => hG_u a.2.2.2.2 G G')).trans (fx_side (sL_bd ok).1 X)
    exact ⟨fun q => ⟨mc.1.1.1, by rw [if_pos q] at eV; rw [← eV]; exact hq _ L2.1⟩, fun q => ⟨mc.1.1.1, by rw [if_neg q] at eV; rw [← eV]; exact hq _ L2.1⟩⟩
theorem q10_doom {x1 x2 x3 x4 : Int32} {V : Int64} (a : tc h z DD N C) (hV : ansE (hG z DD x1 x2 x3) (hVl DD 1 x4) (-1) V) (hq : ∀ h', ax_same md_F h h' → Ret (some (.long V)) h') : mX10_doom g [.ref 77, .int x1, .int x2, .int x3, .int x4] h Ret := by
  obtain ⟨a1, T1, hs1⟩ := q_code (v := 0) a.2.1 a.2.2.2.1
  refine eX10_doom ⟨a.2.1.1, ?_⟩
  intro h1
  refine c_min ⟨_, rfl, fun q2 => ?_, fun q2 => ⟨a1.1, q_handOne a1 T1 a.2.2.2.2 (fun h' hs no => ⟨_, rfl, fun q => absurd rfl q, fun _ => ?_⟩) (fun k p hk ex ok hp ep h' hs hm => ⟨_, rfl, fun _ => ⟨hm.1.1.1.1, ?_⟩, fun q => absurd q (by decide)⟩)⟩⟩
  · rw [← ans_no hV (fun t G => of_decide_eq_false (b2i_0.mp q2) ⟨by rw [G.2.2.2.2.2]; exact nI_pos' (by have := G.2.2.2.2.1; omega), by rw [G.2.2.2.2.2]; exact nI_le (b := 2) G.2.2.2.2.1 (by decide)⟩)]
    exact hq _ hs1
  · rw [← ans_no hV (fun t G => by have := no t.1 G.1 G.2.1; rw [G.2.2.2.1, sp_in_nI (by have := (a.2.2.2.2.2.1 t.1 G.1).2.1; omega) G.2.2.1] at this; cases this)]
    exact hq _ (sm_tr hs1 hs)
  · subst ep
    obtain ⟨n, _, hn, rfl⟩ := i_rng (a := 0) (b := 2) (by decide) (by decide) (of_decide_eq_true (b2i_n0.mp q2)).1 (of_decide_eq_true (b2i_n0.mp q2)).2
    have G : hG z DD x1 (nI p) (nI n) (k, p, n) := ⟨hk, ex, hp, rfl, hn, rfl⟩
    refine c_expectE ok (lvm_hm (sm_tr hs1 hs) hm) hn hp (fun h2 L2 X => ⟨rfl, ?_⟩)
    obtain ⟨pu, mc, -⟩ := L2.2
    have eV : V = if x4 = 0 then ax_l h2 77 56 else ax_l h2 77 57 := (ans_yes hV G (fun t' G' => hG_u a.2.2.2.2 G G')).trans (fx_side (sL_bd ok).1 X)
    exact ⟨fun q => ⟨mc.1.1.1, by rw [if_pos q] at eV; rw [← eV]; exact hq _ L2.1⟩, fun q => ⟨mc.1.1.1, by rw [if_neg q] at eV; rw [← eV]; exact hq _ L2.1⟩⟩
theorem g_hope (a : IV h S Im tp) (b : 103 ≤ h.1 ∧ h.1 ≤ B) (x1 x2 x3 x4 : Int32) : prL (mX9_hope g) (mX10_hope g) [.ref 0, .int x1, .int x2, .int x3, .int x4] [.ref 77, .int x1, .int x2, .int x3, .int x4] h (inv B) := by
  obtain ⟨V, hV⟩ := ans_ex (hG (s_z S) (s_D S) x1 x2 x3) (hVl (s_D S) 0 x4) (-1000000)
  exact pr_ql V a b (fun Ret k => q9_hope (iv_tc a) hV k) (fun h1 Ret a1 k => q10_hope (iv_tc a1) hV k)
theorem g_doom (a : IV h S Im tp) (b : 103 ≤ h.1 ∧ h.1 ≤ B) (x1 x2 x3 x4 : Int32) : prL (mX9_doom g) (mX10_doom g) [.ref 0, .int x1, .int x2, .int x3, .int x4] [.ref 77, .int x1, .int x2, .int x3, .int x4] h (inv B) := by
  obtain ⟨V, hV⟩ := ans_ex (hG (s_z S) (s_D S) x1 x2 x3) (hVl (s_D S) 1 x4) (-1)
  exact pr_ql V a b (fun Ret k => q9_doom (iv_tc a) hV k) (fun h1 Ret a1 k => q10_doom (iv_tc a1) hV k)
end
