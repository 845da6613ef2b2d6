section
variable {g : ax_G} {Ret : Option Value → ax_H → Prop} {h : ax_H} {z : Nat → Nat} {DD : Nat → rD} {N : Nat → Nat → Nat} {C : Nat → Nat → Nat → Nat → Int32} {S : sT} {Im : Nat → Option sT} {tp : Nat → Nat} {B : Nat}
/-! REIGN: the same answer -/
def rgY (D : rD) (hv : Nat → Int32) : Nat := if sp_po (dP D) hv = -1 then 0 else bst (fun q => sp_br (dP D) (dH D) (sp_vl D) (sp_po (dP D) hv) (nI q)) (dH D - 1)
def rgS (D : rD) : Nat → Nat → Int32
  | 0 => dpu D
  | n + 1 => fun p => rgS D n p + sp_vl D p (rgY D (rgS D n))
def rgR (D : rD) (n : Nat) : Int32 := sp_po (dP D) (rgS D n)
def rgF (D : rD) : Nat → Int32
  | 0 => -1
  | n + 1 => if rgF D n = -1 ∧ ¬ rgR D (n + 1) = rgR D n then nI n else rgF D n
def rgT (D : rD) (c : Int32) : Nat → Int32
  | 0 => 0
  | n + 1 => if rgR D n = c then rgT D c n + 1 else rgT D c n
def rgA (D : rD) (c : Int32) : Nat → Int32
  | 0 => -1000000
  | n + 1 => if nI n = c then nI (rgY D (rgS D n)) else rgA D c n
def rgV (D : rD) (m : Nat) (x3 : Int32) : Int32 := if sp_in x3 (dP D) then rgS D m x3.toNatClampNeg else if x3 = 10 then rgR D m else if x3 = 11 then rgF D m else if sp_in (x3 - 20) (dP D) then rgT D (x3 - 20) m else rgA D (x3 - 100) m
def s_reign (x2 x3 : Int32) (D : rD) : Int32 := if x2 < 0 then -1000000 else if x2 ≤ 60 then rgV D x2.toNatClampNeg x3 else -1000000
theorem rgY_lt {D : rD} (ok : rd_ok D) (hv : Nat → Int32) : rgY D hv < dH D := by
  have := ok.1.1
  unfold rgY
  split
  · omega
  · have := bst_le (fun q => sp_br (dP D) (dH D) (sp_vl D) (sp_po (dP D) hv) (nI q)) (dH D - 1); omega
theorem rgF_1 {D : rD} {i : Nat} (q : ¬ rgF D i = -1) : rgF D i = rgF D (i + 1) := (if_neg (fun w => q w.1)).symm
theorem rgF_2 {D : rD} {i : Nat} (q : rgR D (i + 1) = rgR D i) : rgF D i = rgF D (i + 1) := (if_neg (fun w => w.2 q)).symm
theorem rgF_3 {D : rD} {i : Nat} (e : rgF D i = -1) (q : ¬ rgR D (i + 1) = rgR D i) : nI i = rgF D (i + 1) := (if_pos ⟨e, q⟩).symm
theorem rgT_1 {D : rD} {c : Int32} {i : Nat} (q : ¬ rgR D i = c) : rgT D c i + 0 = rgT D c (i + 1) := by rw [Int32.add_zero]; exact (if_neg q).symm
theorem rgT_2 {D : rD} {c : Int32} {i : Nat} (q : rgR D i = c) : rgT D c i + 1 = rgT D c (i + 1) := (if_pos q).symm
theorem rgA_1 {D : rD} {c : Int32} {i : Nat} (q : ¬ nI i = c) : rgA D c i = rgA D c (i + 1) := (if_neg q).symm
theorem rgA_2 {D : rD} {c : Int32} {i : Nat} (q : nI i = c) : nI (rgY D (rgS D i)) = rgA D c (i + 1) := (if_pos q).symm
theorem q9_reign {x1 x2 x3 : Int32} (a : tc h z DD N C) (hq : ∀ h', ax_same cl_F h h' → Ret (some (.int (qv (z 0) DD x1 (-1000000) (s_reign x2 x3)))) h') : mX9_reign g [.ref 0, .int x1, .int x2, .int x3] h Ret := by
  have z2 := a.2.2.2.2.1 0 (by decide)
  refine uX9_reign (fun A hA => vX9_reign_0 hA ⟨a.1.1, q_begun a (fun q => Or.inr ⟨rfl, ?_⟩) (fun k hk ex ok h' hs xs hc => Or.inl ⟨_, rfl, fun q0 => ?_, fun q0 => ⟨fun q60 => ?_, fun q60 => ?_⟩⟩)⟩)
  · have := hq h sm_rf; rwa [qv_no q] at this
  · have hv := hq h' hs
    rw [qv_yes z2 hk ex] at hv
    unfold s_reign at hv
    rw [if_pos q0] at hv
    exact hv
  · have hv : ∀ hh, ax_same cl_F h hh → Ret (some (.int (rgV (DD k) x2.toNatClampNeg x3))) hh := fun hh hs => by
      have hv := hq hh hs
      rw [qv_yes z2 hk ex] at hv
      unfold s_reign at hv
      rw [if_neg q0, if_pos q60] at hv
      exact hv
    obtain ⟨m, _, hm, rfl⟩ := i_rng (a := 0) (b := 60) (by omega) (by omega) (nt_lt.mp q0) q60
    rw [nI_clamp (by omega)] at hv
    have key : ∀ n i : Nat, i + n = m → ∀ hh, lgE h hh (DD k) (rgS (DD k) i) → ∀ (o9 o10 : Option Value), A (38, [some (.ref 0), some (.int x1), some (.int (nI m)), some (.int x3), some (.ref (6 + 14 * k)), some (.int (rgF (DD k) i)), some (.int (rgT (DD k) (x3 - 20) i)), some (.int (rgA (DD k) (x3 - 100) i)), some (.int (nI i)), o9, o10], [], hh, 0, 0) := by
      intro n
      induction n with
      | zero =>
        intro i hi hh L o9 o10
        have e : i = m := by omega
        subst e
        have c := tc_cl L.1 a
        have co := L.2
        have rc := c.2.2.1.2.2.1 k hk
        have hw := hv hh L.1
        unfold rgV at hw
        refine vX9_reign_38 hA ⟨fun _ => ⟨rc.1.1, c_hasPerson rc ⟨_, rfl, fun q => ⟨fun n10 => ⟨fun n11 => ⟨rc.1.1, c_hasPerson rc ⟨_, rfl, fun q2 => ?_, fun q2 => ?_⟩⟩, fun e11 => ?_⟩, fun e10 => ⟨c.1.1, _, c.1.2.1.2.2.2.1, co.1.1, c_poorest co ⟨_, rfl, ?_⟩⟩⟩, fun q => ⟨c.1.1, _, c.1.2.1.2.2.2.1, co.1.1, ?_⟩⟩⟩, fun q => absurd (nI_le (by omega) (by omega)) q⟩
        · rw [b2i_0.mp q, if_neg Bool.false_ne_true, if_neg n10, if_neg n11, b2i_0.mp q2, if_neg Bool.false_ne_true] at hw; exact hw
        · rw [b2i_0.mp q, if_neg Bool.false_ne_true, if_neg n10, if_neg n11, if_pos (b2i_n0.mp q2)] at hw; exact hw
        · rw [b2i_0.mp q, if_neg Bool.false_ne_true, if_neg n10, if_pos e11] at hw; exact hw
        · rw [b2i_0.mp q, if_neg Bool.false_ne_true, if_pos e10] at hw; exact hw
        · rw [if_pos (b2i_n0.mp q)] at hw
          obtain ⟨p, hp, rfl⟩ := sp_in_ix (by have := ok.2.1; omega) (b2i_n0.mp q)
          obtain ⟨e1, e2, e3⟩ := have_at co hp
          refine ⟨_, e1, e2, e3, ?_⟩
          rw [nI_clamp (by have := ok.2.1; omega)] at hw ⊢
          rw [show ax_i hh 53 p = _ from co.2.2.2.2.1 p hp]
          exact hw
      | succ n ih =>
        intro i hi hh L o9 o10
        have c := tc_cl L.1 a
        have co := L.2
        have K : ∀ h4, lgE h h4 (DD k) (rgS (DD k) (i + 1)) → ∀ {x5 x6 x7 : Int32}, x5 = rgF (DD k) (i + 1) → x6 = rgT (DD k) (x3 - 20) (i + 1) → x7 = rgA (DD k) (x3 - 100) (i + 1) → ∀ (o9 o10 : Option Value), A (38, [some (.ref 0), some (.int x1), some (.int (nI m)), some (.int x3), some (.ref (6 + 14 * k)), some (.int x5), some (.int x6), some (.int x7), some (.int (nI i + 1)), o9, o10], [], h4, 0, 0) := fun h4 L4 {x5 x6 x7} e5 e6 e7 o9 o10 => by rw [← nI_succ, e5, e6, e7]; exact ih (i + 1) (by omega) h4 L4 _ _
        have yl := rgY_lt ok (rgS (DD k) i)
        refine vX9_reign_38 hA ⟨fun q => absurd q (nI_ge (by omega) (by omega)), fun _ => ⟨c.1.1, _, c.1.2.1.2.2.2.1, co.1.1, c_poorest co ⟨_, rfl, fun r1 => ⟨c.1.1, _, c.1.2.1.2.2.2.1, co.1.1, c_bestHour (by have := ok.1.1; omega) co ⟨_, rfl, c.1.1, _, c.1.2.1.2.2.2.1, co.1.1, ?_⟩⟩, fun r1 => ⟨c.1.1, _, c.1.2.1.2.2.2.1, co.1.1, ?_⟩⟩⟩⟩
        · have ey : sp_bh (dP (DD k)) (dH (DD k)) (sp_vl (DD k)) (sp_po (dP (DD k)) (rgS (DD k) i)) = nI (rgY (DD k) (rgS (DD k) i)) := by
            unfold rgY; rw [if_neg r1]; rfl
          rw [ey]
          refine lg_live ok L yl (fun h4 L4 s4 => ⟨rfl, fun f1 => ?_, fun f1 => ?_⟩)
          · exact ⟨fun t => ⟨fun s => K h4 L4 (rgF_1 f1) (rgT_1 t) (rgA_1 s) _ _, fun s => K h4 L4 (rgF_1 f1) (rgT_1 t) (rgA_2 s) _ _⟩, fun t => ⟨fun s => K h4 L4 (rgF_1 f1) (rgT_2 t) (rgA_1 s) _ _, fun s => K h4 L4 (rgF_1 f1) (rgT_2 t) (rgA_2 s) _ _⟩⟩
          · have c4 := tc_cl L4.1 a
            have co4 := L4.2
            exact ⟨c4.1.1, _, c4.1.2.1.2.2.2.1, co4.1.1, c_poorest co4 ⟨_, rfl, fun u => ⟨fun t => ⟨fun s => K h4 L4 (rgF_2 u) (rgT_1 t) (rgA_1 s) _ _, fun s => K h4 L4 (rgF_2 u) (rgT_1 t) (rgA_2 s) _ _⟩, fun t => ⟨fun s => K h4 L4 (rgF_2 u) (rgT_2 t) (rgA_1 s) _ _, fun s => K h4 L4 (rgF_2 u) (rgT_2 t) (rgA_2 s) _ _⟩⟩, fun u => ⟨fun t => ⟨fun s => K h4 L4 (rgF_3 f1 u) (rgT_1 t) (rgA_1 s) _ _, fun s => K h4 L4 (rgF_3 f1 u) (rgT_1 t) (rgA_2 s) _ _⟩, fun t => ⟨fun s => K h4 L4 (rgF_3 f1 u) (rgT_2 t) (rgA_1 s) _ _, fun s => K h4 L4 (rgF_3 f1 u) (rgT_2 t) (rgA_2 s) _ _⟩⟩⟩⟩
        · have ey : (0 : Int32) = nI (rgY (DD k) (rgS (DD k) i)) := by
            unfold rgY; rw [if_pos r1]; rfl
          have e0 : rgY (DD k) (rgS (DD k) i) = 0 := if_pos r1
          have eS : rgS (DD k) (i + 1) = (fun p => rgS (DD k) i p + sp_vl (DD k) p 0) := by
            show (fun p => rgS (DD k) i p + sp_vl (DD k) p (rgY (DD k) (rgS (DD k) i))) = _
            rw [e0]
          rw [e0] at yl
          refine lg_live (q := 0) ok L yl (fun h4 L4' s4 => ⟨rfl, fun f1 => ?_, fun f1 => ?_⟩)
          · have L4 : lgE h h4 (DD k) (rgS (DD k) (i + 1)) := by rw [eS]; exact L4'
            exact ⟨fun t => ⟨fun s => K h4 L4 (rgF_1 f1) (rgT_1 t) (rgA_1 s) _ _, fun s => K h4 L4 (rgF_1 f1) (rgT_1 t) (ey.trans (rgA_2 s)) _ _⟩, fun t => ⟨fun s => K h4 L4 (rgF_1 f1) (rgT_2 t) (rgA_1 s) _ _, fun s => K h4 L4 (rgF_1 f1) (rgT_2 t) (ey.trans (rgA_2 s)) _ _⟩⟩
          · have L4 : lgE h h4 (DD k) (rgS (DD k) (i + 1)) := by rw [eS]; exact L4'
            have c4 := tc_cl L4.1 a
            have co4 := L4.2
            exact ⟨c4.1.1, _, c4.1.2.1.2.2.2.1, co4.1.1, c_poorest co4 ⟨_, rfl, fun u => ⟨fun t => ⟨fun s => K h4 L4 (rgF_2 u) (rgT_1 t) (rgA_1 s) _ _, fun s => K h4 L4 (rgF_2 u) (rgT_1 t) (ey.trans (rgA_2 s)) _ _⟩, fun t => ⟨fun s => K h4 L4 (rgF_2 u) (rgT_2 t) (rgA_1 s) _ _, fun s => K h4 L4 (rgF_2 u) (rgT_2 t) (ey.trans (rgA_2 s)) _ _⟩⟩, fun u => ⟨fun t => ⟨fun s => K h4 L4 (rgF_3 f1 u) (rgT_1 t) (rgA_1 s) _ _, fun s => K h4 L4 (rgF_3 f1 u) (rgT_1 t) (ey.trans (rgA_2 s)) _ _⟩, fun t => ⟨fun s => K h4 L4 (rgF_3 f1 u) (rgT_2 t) (rgA_1 s) _ _, fun s => K h4 L4 (rgF_3 f1 u) (rgT_2 t) (ey.trans (rgA_2 s)) _ _⟩⟩⟩⟩
    exact key m 0 (by omega) h' ⟨hs, hc.2.1⟩ _ _
  · have hv := hq h' hs
    rw [qv_yes z2 hk ex] at hv
    unfold s_reign at hv
    rw [if_neg q0, if_neg q60] at hv
    exact hv
theorem c_reignDaysE {hh : ax_H} {k m : Nat} (ok : rd_ok (DD k)) (hm : m ≤ 60) (L : lmE h hh k (DD k) (dpu (DD k))) (h1 : ∀ h2, lmE h h2 k (DD k) (rgS (DD k) m) → (∀ d, d < m → ax_i h2 100 d = nI (rgY (DD k) (rgS (DD k) d))) → (∀ p, p < 6 → ax_i h2 101 p = rgT (DD k) (nI p) m) → Ret (some (.int (rgF (DD k) m))) h2) : mX10_reignDays g [.ref 77, .int (nI m)] hh Ret := by
  have H12 := ok.1.2
  have P6 := ok.2.1
  refine uX10_reignDays (fun A hA => vX10_reignDays_0 hA ?_)
  have k2 : ∀ n i : Nat, i + n = m → ∀ h3, lmE h h3 k (DD k) (rgS (DD k) i) → (∀ d, d < i → ax_i h3 100 d = nI (rgY (DD k) (rgS (DD k) d))) → (∀ p, p < 6 → ax_i h3 101 p = rgT (DD k) (nI p) i) → ∀ (o4 : Option Value), A (25, [some (.ref 77), some (.int (nI m)), some (.int (rgF (DD k) i)), some (.int (nI i)), o4], [], h3, 0, 0) := by
    intro n
    induction n with
    | zero =>
      intro i hi h3 L3 ed ep o4
      have e : i = m := by omega
      subst e
      exact vX10_reignDays_25 hA ⟨fun _ => h1 _ L3 ed ep, fun q => absurd (nI_le (by omega) (by omega)) q⟩
    | succ n ih =>
      intro i hi h3 L3 ed ep o4
      have mc := L3.2.1
      have mw := L3.2.2
      have t0 := mc.1.1.1
      obtain ⟨e1, e2⟩ := mo_rh mc.1.1
      obtain ⟨f1, f2⟩ := mo_rt mc.1.1
      have yl := rgY_lt ok (rgS (DD k) i)
      have v60 : vp_in (nI i) (ax_s h3 (77 + 23)).2 := by rw [e2]; exact vp_in_nI (by omega) (by decide)
      have s60 : (ax_s h3 (77 + 23)).1 = 11 := by rw [e2]
      have K : ∀ h6, lmE h h6 k (DD k) (rgS (DD k) (i + 1)) → (∀ d, d < i + 1 → ax_i h6 100 d = nI (rgY (DD k) (rgS (DD k) d))) → (∀ p, p < 6 → ax_i h6 101 p = rgT (DD k) (nI p) (i + 1)) → ∀ {x2 : Int32}, x2 = rgF (DD k) (i + 1) → ∀ (o4 : Option Value), A (25, [some (.ref 77), some (.int (nI m)), some (.int x2), some (.int (nI i + 1)), o4], [], h6, 0, 0) := fun h6 L6 a6 b6 {x2} e o4 => by rw [← nI_succ, e]; exact ih (i + 1) (by omega) h6 L6 a6 b6 _
      have e33 : ax_i h3 77 33 = rgR (DD k) i := mw.2.2
      refine vX10_reignDays_25 hA ⟨fun q => absurd q (nI_ge (by omega) (by omega)), fun _ => ⟨t0, t0, _, e1, fun q => ?_, fun q => ⟨s60, v60, ?_⟩⟩⟩
      · rw [e33] at q
        rcases po_ix (P := dP (DD k)) (pu := rgS (DD k) i) with e | ⟨p, hp, e⟩
        · exact absurd e q
        · have eR : rgR (DD k) i = nI p := e
          have eY : sp_bh (dP (DD k)) (dH (DD k)) (sp_vl (DD k)) (nI p) = nI (rgY (DD k) (rgS (DD k) i)) := by
            unfold rgY
            rw [if_neg (show ¬ sp_po (dP (DD k)) (rgS (DD k) i) = -1 from q), e]
            rfl
          rw [e33, eR]
          refine ⟨t0, c_mwishOf (by have := ok.1.1; omega) mc hp ⟨_, rfl, s60, v60, ?_⟩⟩
          rw [eY]
          intro u7
          have v6 : vp_in (nI p) (ax_s h3 (77 + 24)).2 := by rw [f2]; exact vp_in_nI (by omega) (by decide)
          have s6 : (ax_s h3 (77 + 24)).1 = 11 := by rw [f2]
          refine ⟨fun q9 => absurd q9 (nI_nm1 (by omega)), fun _ => ⟨t0, _, f1, ⟨rfl, rfl⟩, s6, v6, s6, v6, ?_⟩⟩
          intro u12
          have L12 : lmE h u12 k (DD k) (rgS (DD k) i) := lm_mr L3 (mr_tr (mr_c (J := fun _ => False) (F := fun a => a = 100 ∨ a = 101) (Or.inl rfl) (by decide)) (mr_c (Or.inr rfl) (by decide))) (fun j hj => hj.elim) (fun a ha => by omega)
          refine ⟨t0, _, e1, s60, v60, t0, ?_⟩
          have ev : ax_i u12 (77 + 23) (nI i).toNatClampNeg = nI (rgY (DD k) (rgS (DD k) i)) := by
            show ax_i (ax_pi (ax_pi h3 100 _ _) 101 _ _) 100 _ = _
            rw [ai_pi, if_neg (by omega), ai_pi, if_pos ⟨rfl, rfl⟩]
          rw [ev]
          have pd : ∀ d, d < i + 1 → ax_i u12 100 d = nI (rgY (DD k) (rgS (DD k) d)) := fun d hd => by
            show ax_i (ax_pi (ax_pi h3 100 (nI i).toNatClampNeg _) 101 _ _) 100 d = _
            rw [ai_pi, if_neg (by omega), nI_clamp (by omega), ai_pi]
            by_cases w : d = i
            · rw [if_pos ⟨rfl, w⟩, w]
            · rw [if_neg (fun v => w v.2)]; exact ed d (by omega)
          have pp : ∀ r, r < 6 → ax_i u12 101 r = rgT (DD k) (nI r) (i + 1) := fun r hr => by
            show ax_i (ax_pi (ax_pi h3 100 (nI i).toNatClampNeg _) 101 (nI p).toNatClampNeg (ax_i (ax_pi h3 100 (nI i).toNatClampNeg _) 101 (nI p).toNatClampNeg + 1)) 101 r = _
            rw [nI_clamp (n := p) (by omega)]
            by_cases w : r = p
            · rw [ai_pi, if_pos ⟨rfl, w⟩, ai_pi, if_neg (by omega), ep p (by omega), ← rgT_2 (show rgR (DD k) i = nI r from by rw [w]; exact eR), w]
            · rw [ai_pi, if_neg (fun v => w v.2), ai_pi, if_neg (by omega), ep r hr, ← rgT_1 (show ¬ rgR (DD k) i = nI r from fun v => w ((nI_eq (by omega) (by omega)).mp (v.symm.trans eR))), Int32.add_zero]
          refine lm_live L12 yl (fun h6 L6 r6 => ?_)
          have d6 : ∀ d, d < i + 1 → ax_i h6 100 d = nI (rgY (DD k) (rgS (DD k) d)) := fun d hd => by rw [mr_e r6 (x := 100) (by omega) (by omega)]; exact pd d hd
          have p6 : ∀ r, r < 6 → ax_i h6 101 r = rgT (DD k) (nI r) (i + 1) := fun r hr => by rw [mr_e r6 (x := 101) (by omega) (by omega)]; exact pp r hr
          have e6 : ax_i h6 77 33 = rgR (DD k) (i + 1) := L6.2.2.2.2
          refine ⟨rfl, fun f => K h6 L6 d6 p6 (rgF_1 f) _, fun f => ⟨L6.2.1.1.1.1, fun u => K h6 L6 d6 p6 (rgF_2 ?_) _, fun u => K h6 L6 d6 p6 (rgF_3 f (fun w => u ?_)) _⟩⟩
          · rw [← e6, eR]; exact u
          · rw [e6, w]; exact eR
      · have eR : rgR (DD k) i = -1 := e33.symm.trans q
        have eY : (0 : Int32) = nI (rgY (DD k) (rgS (DD k) i)) := by
          unfold rgY
          rw [if_pos (show sp_po (dP (DD k)) (rgS (DD k) i) = -1 from eR)]
          rfl
        rw [eY]
        intro u16
        have L16 : lmE h u16 k (DD k) (rgS (DD k) i) := lm_mr L3 (mr_c (J := fun _ => False) (F := fun a => a = 100 ∨ a = 101) (Or.inl rfl) (by decide)) (fun j hj => hj.elim) (fun a ha => by omega)
        refine ⟨fun _ => ⟨t0, _, e1, s60, v60, t0, ?_⟩, fun q2 => absurd q q2⟩
        have ev : ax_i u16 (77 + 23) (nI i).toNatClampNeg = nI (rgY (DD k) (rgS (DD k) i)) := by
          show ax_i (ax_pi h3 100 _ _) 100 _ = _
          rw [ai_pi, if_pos ⟨rfl, rfl⟩]
        rw [ev]
        have pd : ∀ d, d < i + 1 → ax_i u16 100 d = nI (rgY (DD k) (rgS (DD k) d)) := fun d hd => by
          show ax_i (ax_pi h3 100 (nI i).toNatClampNeg _) 100 d = _
          rw [nI_clamp (by omega), ai_pi]
          by_cases w : d = i
          · rw [if_pos ⟨rfl, w⟩, w]
          · rw [if_neg (fun v => w v.2)]; exact ed d (by omega)
        have pp : ∀ r, r < 6 → ax_i u16 101 r = rgT (DD k) (nI r) (i + 1) := fun r hr => by
          show ax_i (ax_pi h3 100 (nI i).toNatClampNeg _) 101 r = _
          rw [ai_pi, if_neg (by omega), ep r hr, ← rgT_1 (show ¬ rgR (DD k) i = nI r from fun v => nI_nm1 (k := r) (by omega) (v.symm.trans eR)), Int32.add_zero]
        refine lm_live L16 yl (fun h6 L6 r6 => ?_)
        have d6 : ∀ d, d < i + 1 → ax_i h6 100 d = nI (rgY (DD k) (rgS (DD k) d)) := fun d hd => by rw [mr_e r6 (x := 100) (by omega) (by omega)]; exact pd d hd
        have p6 : ∀ r, r < 6 → ax_i h6 101 r = rgT (DD k) (nI r) (i + 1) := fun r hr => by rw [mr_e r6 (x := 101) (by omega) (by omega)]; exact pp r hr
        have e6 : ax_i h6 77 33 = rgR (DD k) (i + 1) := L6.2.2.2.2
        refine ⟨rfl, fun f => K h6 L6 d6 p6 (rgF_1 f) _, fun f => ⟨L6.2.1.1.1.1, fun u => K h6 L6 d6 p6 (rgF_2 ?_) _, fun u => K h6 L6 d6 p6 (rgF_3 f (fun w => u ?_)) _⟩⟩
        · rw [← e6, ← e33]; exact u
        · rw [e6, w]; exact e33.symm
  have k1 : ∀ n i : Nat, i + n = 6 → ∀ h3, lmE h h3 k (DD k) (dpu (DD k)) → (∀ p, p < i → ax_i h3 101 p = 0) → ∀ o4 : Option Value, A (4, [some (.ref 77), some (.int (nI m)), some (.int (-1)), some (.int (nI i)), o4], [], h3, 0, 0) := by
    intro n
    induction n with
    | zero =>
      intro i hi h3 L3 ep o4
      exact vX10_reignDays_4 hA ⟨fun _ => k2 m 0 (by omega) h3 L3 (fun d hd => absurd hd (Nat.not_lt_zero d)) (fun p hp => ep p (by omega)) _, fun q => absurd (nI_le (a := 6) (b := i) (by omega) (by omega)) q⟩
    | succ n ih =>
      intro i hi h3 L3 ep o4
      have mc := L3.2.1
      obtain ⟨f1, f2⟩ := mo_rt mc.1.1
      refine vX10_reignDays_4 hA ⟨fun q => absurd q (nI_ge (a := i) (b := 6) (by omega) (by decide)), fun _ => ⟨mc.1.1.1, _, f1, by rw [f2], by rw [f2]; exact vp_in_nI (by omega) (by decide), ?_⟩⟩
      intro u5
      rw [← nI_succ]
      refine ih (i + 1) (by omega) u5 (lm_mr L3 (mr_c (J := fun _ => False) (F := fun a => a = 101) rfl (by decide)) (fun j hj => hj.elim) (fun a ha => by omega)) (fun p hp => ?_) _
      show ax_i (ax_pi h3 101 (nI i).toNatClampNeg 0) 101 p = 0
      rw [nI_clamp (by omega), ai_pi]
      by_cases w : p = i
      · rw [if_pos ⟨rfl, w⟩]
      · rw [if_neg (fun v => w v.2)]; exact ep p (by omega)
  exact k1 6 0 (by decide) hh L (fun p hp => absurd hp (Nat.not_lt_zero p)) _
theorem rgA_in {D : rD} {d : Nat} : ∀ m, d < m → m ≤ 60 → rgA D (nI d) m = nI (rgY D (rgS D d))
  | 0, h, _ => absurd h (Nat.not_lt_zero d)
  | m + 1, h, hm => by
    show (if nI m = nI d then nI (rgY D (rgS D m)) else rgA D (nI d) m) = _
    by_cases e : m = d
    · rw [if_pos (congrArg nI e), e]
    · rw [if_neg (fun w => e ((nI_eq (by omega) (by omega)).mp w)), rgA_in m (by omega) (by omega)]
theorem rgA_no {D : rD} {c : Int32} : ∀ m, (∀ d, d < m → ¬ nI d = c) → rgA D c m = -1000000
  | 0, _ => rfl
  | m + 1, h => by
    show (if nI m = c then nI (rgY D (rgS D m)) else rgA D c m) = _
    rw [if_neg (h m (by omega)), rgA_no m (fun d hd => h d (by omega))]
theorem nI_ne {a b : Nat} (ha : a < 2 ^ 31) (hb : b < 2 ^ 31) (n : a ≠ b) : ¬ nI a = nI b := fun e => n ((nI_eq ha hb).mp e)
theorem in_big {n P : Nat} (hn : P ≤ n) (h2 : n < 2 ^ 31) : sp_in (nI n) P = false := by
  unfold sp_in
  exact decide_eq_false (fun w => absurd w.2 (nI_nlt hn h2))
theorem q10_reign {x1 x2 x3 : Int32} (a : tc h z DD N C) (hq : ∀ h', ax_same md_F h h' → Ret (some (.int (qv (z 0) DD x1 (-1000000) (s_reign x2 x3)))) h') : mX10_reign g [.ref 77, .int x1, .int x2, .int x3] h Ret := by
  have z2 := a.2.2.2.2.1 0 (by decide)
  obtain ⟨a1, T1, hs1⟩ := q_code (v := 0) a.2.1 a.2.2.2.1
  have bad : ∀ h', ax_same md_F h h' → ¬ (0 ≤ x2 ∧ x2 ≤ 60) → Ret (some (.int (-1000000))) h' := fun h' hs n => by
    have hv := hq h' hs
    have e : qv (z 0) DD x1 (-1000000) (s_reign x2 x3) = -1000000 := by
      unfold qv
      split
      · unfold s_reign
        split
        · rfl
        · rename_i c
          split
          · rename_i d
            exact absurd ⟨Int32.not_lt.mp c, d⟩ n
          · rfl
      · rfl
    rw [e] at hv
    exact hv
  refine eX10_reign ⟨a.2.1.1, ?_⟩
  intro h1
  refine c_min ⟨_, rfl, fun q => bad _ hs1 (of_decide_eq_false (b2i_0.mp q)), fun q60 => ⟨a1.1, q_hand a1 T1 a.2.2.2.2 (fun q => ⟨_, rfl, fun q => absurd rfl q, fun _ => ?_⟩) (fun k hk ex ok h' hs hm => ⟨_, rfl, fun _ => ⟨hm.1.1.1.1, ?_⟩, fun q => absurd q (by decide)⟩)⟩⟩
  · have := hq _ hs1; rwa [qv_no q] at this
  obtain ⟨p0, p60⟩ := of_decide_eq_true (b2i_n0.mp q60)
  have hv : ∀ hh, ax_same md_F h hh → Ret (some (.int (rgV (DD k) x2.toNatClampNeg x3))) hh := fun hh hs => by
    have hv := hq hh hs
    rw [qv_yes z2 hk ex] at hv
    unfold s_reign at hv
    rw [if_neg (Int32.not_lt.mpr p0), if_pos p60] at hv
    exact hv
  obtain ⟨m, _, hm60, rfl⟩ := i_rng (a := 0) (b := 60) (by omega) (by omega) p0 p60
  rw [nI_clamp (by omega)] at hv
  have P6 := ok.2.1
  refine c_reignDaysE ok hm60 (lm_hm (sm_tr hs1 hs) hm) (fun h2 L2 ed ep => ⟨_, rfl, ?_⟩)
  have mc := L2.2.1
  have mw := L2.2.2
  have t0 := mc.1.1.1
  have hw := hv h2 L2.1
  unfold rgV at hw
  obtain ⟨e1, e2⟩ := mo_rh mc.1.1
  obtain ⟨f1, f2⟩ := mo_rt mc.1.1
  obtain ⟨g1, g2⟩ := mo_pu mc.1.1
  rw [show (99 : Int32) + nI m = nI (99 + m) from ni_c 99 _]
  refine c_min ⟨_, rfl, fun q1 => ⟨t0, ?_⟩, fun q => ⟨t0, _, e1, by rw [e2], ?_⟩⟩
  · have no1 := of_decide_eq_false (b2i_0.mp q1)
    rw [mc.1.2.2.2.2.2.1, show (19 : Int32) + nI (dP (DD k)) = nI (19 + dP (DD k)) from ni_c 19 _]
    refine c_min ⟨_, rfl, fun q2 => ⟨t0, c_misOne mc.1 ⟨_, rfl, fun q3 => ⟨fun n10 => ⟨fun n11 => ?_, fun e11 => ?_⟩, fun e10 => ⟨t0, ?_⟩⟩, fun q => ⟨t0, _, g1, by rw [g2], ?_⟩⟩⟩, fun q => ⟨t0, _, f1, by rw [f2], ?_⟩⟩
    · have no2 := of_decide_eq_false (b2i_0.mp q2)
      rw [b2i_0.mp q3, if_neg Bool.false_ne_true, if_neg n10, if_neg n11, if_neg (fun e => ?_), rgA_no m (fun d hd e => ?_)] at hw
      · exact hw
      · have ex3 : x3 = nI (100 + d) := by
          rw [show nI (100 + d) = 100 + nI d from (ni_c 100 d).symm, e, Int32.add_comm, Int32.sub_add_cancel]
        rw [ex3] at no1
        exact no1 ⟨nI_le (a := 100) (by omega) (by omega), nI_le (by omega) (by omega)⟩
      · obtain ⟨i, hi, ei⟩ := sp_in_ix (by omega) e
        have ex3 : x3 = nI (20 + i) := by
          rw [show nI (20 + i) = 20 + nI i from (ni_c 20 i).symm, ← ei, Int32.add_comm, Int32.sub_add_cancel]
        rw [ex3] at no2
        exact no2 ⟨nI_le (a := 20) (by omega) (by omega), nI_le (by omega) (by omega)⟩
    · rw [b2i_0.mp q3, if_neg Bool.false_ne_true, if_neg n10, if_pos e11] at hw; exact hw
    · rw [b2i_0.mp q3, if_neg Bool.false_ne_true, if_pos e10] at hw; rw [mw.2.2]; exact hw
    · rw [if_pos (b2i_n0.mp q)] at hw
      obtain ⟨p, hp, rfl⟩ := sp_in_ix (by omega) (b2i_n0.mp q)
      rw [nI_clamp (by omega)] at hw
      rw [g2]
      refine ⟨vp_in_nI (by omega) (by decide), ?_⟩
      rw [nI_clamp (by omega), show ax_i h2 (77 + 13) p = _ from mc.2.1 p hp]
      exact hw
    · have y := of_decide_eq_true (b2i_n0.mp q)
      rw [f2]
      rcases Nat.eq_zero_or_pos (dP (DD k)) with e | e
      · rw [e] at y
        have y1 := i_le.mp y.1
        have y2 := i_le.mp y.2
        rw [nI_toInt (by omega)] at y2
        change (20 : Int) ≤ _ at y1
        omega
      · obtain ⟨n, n1, n2, rfl⟩ := i_rng (a := 20) (b := 19 + dP (DD k)) (by omega) (by omega) y.1 y.2
        obtain ⟨i, rfl⟩ := Nat.exists_eq_add_of_le n1
        have e20 : nI (20 + i) - 20 = nI i := ni_sb
        rw [in_big (by omega) (by omega), if_neg Bool.false_ne_true, if_neg (show ¬ nI (20 + i) = 10 from nI_ne (b := 10) (by omega) (by decide) (by omega)), if_neg (show ¬ nI (20 + i) = 11 from nI_ne (b := 11) (by omega) (by decide) (by omega)), e20, sp_in_nI (by omega) (by omega), if_pos rfl, ← ep i (by omega)] at hw
        rw [e20]
        refine ⟨vp_in_nI (by omega) (by decide), ?_⟩
        rw [nI_clamp (by omega)]
        exact hw
  · have y := of_decide_eq_true (b2i_n0.mp q)
    rw [e2]
    rcases Nat.eq_zero_or_pos m with e | e
    · rw [e] at y
      have y1 := i_le.mp y.1
      have y2 := i_le.mp y.2
      rw [nI_toInt (by omega)] at y2
      change (100 : Int) ≤ _ at y1
      omega
    · obtain ⟨n, n1, n2, rfl⟩ := i_rng (a := 100) (b := 99 + m) (by omega) (by omega) y.1 y.2
      obtain ⟨i, rfl⟩ := Nat.exists_eq_add_of_le n1
      have e100 : nI (100 + i) - 100 = nI i := ni_sb
      have e80 : nI (100 + i) - 20 = nI (80 + i) := by rw [show 100 + i = 20 + (80 + i) by omega]; exact ni_sb
      rw [in_big (by omega) (by omega), if_neg Bool.false_ne_true, if_neg (show ¬ nI (100 + i) = 10 from nI_ne (b := 10) (by omega) (by decide) (by omega)), if_neg (show ¬ nI (100 + i) = 11 from nI_ne (b := 11) (by omega) (by decide) (by omega)), e80, in_big (by omega) (by omega), if_neg Bool.false_ne_true, e100, rgA_in m (by omega) hm60, ← ed i (by omega)] at hw
      rw [e100]
      refine ⟨vp_in_nI (by omega) (by decide), ?_⟩
      rw [nI_clamp (by omega)]
      exact hw
theorem g_reign (a : IV h S Im tp) (b : 103 ≤ h.1 ∧ h.1 ≤ B) (x1 x2 x3 : Int32) : prI (mX9_reign g) (mX10_reign g) [.ref 0, .int x1, .int x2, .int x3] [.ref 77, .int x1, .int x2, .int x3] h (inv B) := pr_q _ a b (fun Ret k => q9_reign (iv_tc a) k) (fun h1 Ret a1 k => q10_reign (iv_tc a1) k)
end
