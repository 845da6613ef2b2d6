section
variable {g : ax_G} {Ret : Option Value → ax_H → Prop} {h : ax_H} {z : Nat → Nat} {DD : Nat → rD} {N : Nat → Nat → Nat} {C : Nat → Nat → Nat → Nat → Int32} {S : sT} {Im : Nat → Option sT} {tp : Nat → Nat} {B : Nat}
/-! a republic with another mode of a kind -/
def swm (D : rD) (κ : Nat) (μ : Int32) : rD := (dH D, dP D, dpu D, dwo D, fun k => if k = κ then μ else dmo D k, dde D, dlo D)
theorem swm_ok {D : rD} {κ : Nat} {μ : Int32} (ok : rd_ok D) (hm : μ = 0 ∨ μ = 1 ∨ μ = 2) : rd_ok (swm D κ μ) := by
  refine ⟨ok.1, ok.2.1, ok.2.2.1, fun k hk => ?_, ok.2.2.2.2.1, ok.2.2.2.2.2.1, ok.2.2.2.2.2.2⟩
  show (if k = κ then μ else dmo D k) = 0 ∨ (if k = κ then μ else dmo D k) = 1 ∨ (if k = κ then μ else dmo D k) = 2
  by_cases c : k = κ
  · rw [if_pos c]; exact hm
  · rw [if_neg c]; exact ok.2.2.2.1 k hk
theorem sumI_add {f k : Nat → Int} : ∀ n, sumI (fun i => f i + k i) n = sumI f n + sumI k n
  | 0 => rfl
  | n + 1 => by
    show sumI (fun i => f i + k i) n + (f n + k n) = (sumI f n + f n) + (sumI k n + k n)
    rw [sumI_add n]; omega
/-! what a mode of a kind changes -/
def cwR (D : rD) (x : Int32) (p : Nat) (b : Int64) : Nat → Int64
  | 0 => b
  | j + 1 => if dde D p j = x then cwR D x p b j + (sp_w D (rul D) j).toInt64 else cwR D x p b j
def cwT (D : rD) (x : Int32) : Nat → Int64
  | 0 => 0
  | p + 1 => cwR D x p (cwT D x p) (dH D)
def cI (D : rD) (x : Int32) (p q : Nat) : Int := if dde D p q = x then (sp_w D (rul D) q).toInt else 0
theorem cI_bd {D : rD} (ok : rd_ok D) (x : Int32) (p q : Nat) : 0 ≤ cI D x p q ∧ cI D x p q ≤ 9 := by
  have := sp_w_bd ok (rul D) q
  unfold cI
  split <;> omega
theorem sumI_bd {f : Nat → Int} {b : Int} (hb : 0 ≤ b) : ∀ n, (∀ i, i < n → 0 ≤ f i ∧ f i ≤ b) → 0 ≤ sumI f n ∧ sumI f n ≤ b * n
  | 0, _ => by
    show (0 : Int) ≤ 0 ∧ (0 : Int) ≤ b * ((0 : Nat) : Int)
    simp
  | n + 1, h => by
    have ih := sumI_bd hb n (fun i hi => h i (by omega))
    have hl := h n (by omega)
    have e1 : b * ((n + 1 : Nat) : Int) = b * (n : Int) + b := by
      rw [show ((n + 1 : Nat) : Int) = (n : Int) + 1 from rfl, Int.mul_add, Int.mul_one]
    show 0 ≤ sumI f n + f n ∧ sumI f n + f n ≤ b * ((n + 1 : Nat) : Int)
    rw [e1]; omega
theorem cwR_int {D : rD} (ok : rd_ok D) {x : Int32} {p : Nat} {b : Int64} (b0 : 0 ≤ b.toInt) (b1 : b.toInt ≤ 1000) : ∀ j, j ≤ 12 → (cwR D x p b j).toInt = b.toInt + sumI (cI D x p) j
  | 0, _ => (Int.add_zero _).symm
  | j + 1, hj => by
    have ih := cwR_int ok (x := x) (p := p) b0 b1 j (by omega)
    have bd := sumI_bd (f := cI D x p) (b := 9) (by decide) j (fun i _ => cI_bd ok x p i)
    have w := sp_w_bd ok (rul D) j
    show (if dde D p j = x then cwR D x p b j + (sp_w D (rul D) j).toInt64 else cwR D x p b j).toInt = b.toInt + (sumI (cI D x p) j + cI D x p j)
    by_cases c : dde D p j = x
    · rw [if_pos c, i64_add (by rw [i_64]; omega) (by rw [i_64]; omega), i_64, ih, show cI D x p j = (sp_w D (rul D) j).toInt from if_pos c]; omega
    · rw [if_neg c, ih, show cI D x p j = 0 from if_neg c]; omega
theorem cwT_int {D : rD} (ok : rd_ok D) {x : Int32} : ∀ p, p ≤ 6 → (cwT D x p).toInt = sumI (fun i => sumI (cI D x i) (dH D)) p ∧ 0 ≤ (cwT D x p).toInt ∧ (cwT D x p).toInt ≤ 108 * p
  | 0, _ => ⟨rfl, by show (0 : Int) ≤ (0 : Int64).toInt; decide, by show (0 : Int64).toInt ≤ 108 * ((0 : Nat) : Int); decide⟩
  | p + 1, hp => by
    have H12 := ok.1.2
    obtain ⟨i1, i2, i3⟩ := cwT_int ok (x := x) p (by omega)
    have t := cwR_int ok (x := x) (p := p) (b := cwT D x p) i2 (by omega) (dH D) H12
    have bd := sumI_bd (f := cI D x p) (b := 9) (by decide) (dH D) (fun i _ => cI_bd ok x p i)
    have e : (cwT D x (p + 1)).toInt = (cwT D x p).toInt + sumI (cI D x p) (dH D) := t
    refine ⟨?_, by omega, by omega⟩
    rw [e, i1]
    rfl
def chB (D : rD) (x y : Int32) : Int64 := cwT D x (dP D) * (sp_xb D x y - sp_ex D x).toInt64
theorem chB_int {D : rD} (ok : rd_ok D) (x y : Int32) : (chB D x y).toInt = (cwT D x (dP D)).toInt * ((sp_xb D x y).toInt - (sp_ex D x).toInt) ∧ bL 128304 (chB D x y) := by
  have e1 := ex_bd ok x y
  have e2 := ex_bd ok x (sp_mo D x)
  have P6 := ok.2.1
  have c := (cwT_int ok (x := x) (dP D) P6).2
  have es : (sp_xb D x y - sp_ex D x).toInt = (sp_xb D x y).toInt - (sp_ex D x).toInt := by unfold sp_ex; exact i32_sub (by omega) (by omega)
  have t := abs_mul (a := 648) (b := 198) (by decide) (by decide) (x := (cwT D x (dP D)).toInt) (y := (sp_xb D x y).toInt - (sp_ex D x).toInt) (by omega) (by unfold sp_ex; omega)
  have e : (chB D x y).toInt = (cwT D x (dP D)).toInt * ((sp_xb D x y).toInt - (sp_ex D x).toInt) := by
    unfold chB
    rw [i64_mul (by rw [i_64, es]; omega) (by rw [i_64, es]; omega), i_64, es]
  exact ⟨e, by unfold bL; rw [e]; omega⟩
theorem c_changeByE {k : Nat} {D : rD} {x y : Int32} (ok : rd_ok D) (xs : xs_st h) (hc : hc_at h k D) (hq : Ret (some (.long (chB D x y))) h) : mX9_changeBy g [.ref 0, .ref (6 + 14 * k), .int x, .int y] h Ret := by
  have H12 := ok.1.2
  have P6 := ok.2.1
  have od := hc.2.2
  refine uX9_changeBy (fun A hA => vX9_changeBy_0 hA ?_)
  have key : ∀ m i : Nat, i + m = dP D → ∀ (o7 : Option Value), A (6, [some (.ref 0), some (.ref (6 + 14 * k)), some (.int x), some (.int y), some (.long (cwT D x i)), none, some (.int (nI i)), o7], [], h, 0, 0) := by
    intro m
    induction m with
    | zero =>
      intro i hi o7
      refine vX9_changeBy_6 hA ⟨hc.1.1.1, fun _ => ⟨hc.1.1.1, c_extraBy hc.1 ⟨_, rfl, hc.1.1.1, c_extraOf hc.1 ⟨_, rfl, by rw [show i = dP D by omega]; exact hq⟩⟩⟩, fun q => ?_⟩
      rw [hc.1.2.2.1.2] at q; exact absurd (nI_le (by omega) (by omega)) q
    | succ m ih =>
      intro i hi o7
      have nx := ih (i + 1) (by omega)
      have inn : ∀ f j : Nat, j + f = dH D → A (18, [some (.ref 0), some (.ref (6 + 14 * k)), some (.int x), some (.int y), some (.long (cwR D x i (cwT D x i) j)), none, some (.int (nI i)), some (.int (nI j))], [], h, 0, 0) := by
        intro f
        induction f with
        | zero =>
          intro j hj
          refine vX9_changeBy_18 hA ⟨hc.1.1.1, fun _ => ?_, fun q => ?_⟩
          · rw [← nI_succ, show j = dH D by omega]; exact nx _
          · rw [hc.1.2.2.1.1] at q; exact absurd (nI_le (by omega) (by omega)) q
        | succ f ihf =>
          intro j hj
          have st := ihf (j + 1) (by omega)
          refine vX9_changeBy_18 hA ⟨hc.1.1.1, fun q => ?_, fun _ => ⟨hc.1.1.1, c_deedAt hc.1 ⟨_, rfl, ?_⟩⟩⟩
          · rw [hc.1.2.2.1.1] at q; exact absurd q (nI_ge (by omega) (by omega))
          · rw [de_in (show i < dP D by omega) (show j < dH D by omega) P6 H12]
            refine ⟨fun c => ?_, fun c => ⟨xs.1, _, xs.2.1.2.2.2.2.1, od.1.1, _, od.1.2.1, by rw [od.1.2.2], by rw [od.1.2.2]; exact vp_in_nI (by omega) (by decide), ?_⟩⟩
            · rw [show cwR D x i (cwT D x i) (j + 1) = cwR D x i (cwT D x i) j from if_neg c] at st
              rw [← nI_succ, Int64.add_zero]; exact st
            · rw [show cwR D x i (cwT D x i) (j + 1) = cwR D x i (cwT D x i) j + (sp_w D (rul D) j).toInt64 from if_pos c] at st
              rw [nI_clamp (by omega), od.2.2.2.2 j (by omega), ← nI_succ]
              exact st
      refine vX9_changeBy_6 hA ⟨hc.1.1.1, fun q => ?_, fun _ => inn (dH D) 0 (by omega)⟩
      rw [hc.1.2.2.1.2] at q; exact absurd q (nI_ge (by omega) (by omega))
  exact key (dP D) 0 (by omega) _
/-! all means -/
def aM (D D' : rD) (p : Nat) : Int64 := sumL (fun i => sp_we (dP D) (dH D) (sp_vl D') (sp_w D (rul D)) (nI i)) p
theorem aM_int {D D' : rD} (ok : rd_ok D) (ok' : rd_ok D') : ∀ p, p ≤ dP D → (aM D D' p).toInt = sumI (fun i => (sp_we (dP D) (dH D) (sp_vl D') (sp_w D (rul D)) (nI i)).toInt) p ∧ bL (138996 * p) (aM D D' p) := fun p hp => by
  have P6 := ok.2.1
  have t := sumL_int (f := fun i => sp_we (dP D) (dH D) (sp_vl D') (sp_w D (rul D)) (nI i)) (b := 138996) (n := p) (by decide) (fun i hi => (we_int ok (vl := sp_vl D') (x := rul D) (show i < dP D by omega) (fun q _ => vl_bd ok' i q)).2) (by omega)
  exact ⟨t.1, t.2.1, t.2.2⟩
theorem ex_sw {D : rD} (ok : rd_ok D) {κ : Nat} {μ : Int32} {p q : Nat} (hκ : κ < 6) (hp : p < dP D) (hq : q < dH D) : (sp_ex (swm D κ μ) (dde D p q)).toInt = (sp_ex D (dde D p q)).toInt + (if dde D p q = nI κ then (sp_xb D (nI κ) μ).toInt - (sp_ex D (nI κ)).toInt else 0) := by
  rcases rd_de_of ok p q hp hq with e | ⟨j, hj, e⟩
  · rw [e, if_neg (fun w => nI_nm1 (k := κ) (by omega) w.symm), ex_no, ex_no]; rfl
  · rw [e]
    have m1 : sp_mo (swm D κ μ) (nI j) = (if j = κ then μ else dmo D j) := by
      unfold sp_mo
      rw [if_neg (by rintro (w | w); exact nI_pos (by omega) w; exact nI_ge (a := j) (b := 6) hj (by decide) w), nI_clamp (by omega)]; rfl
    have m2 : sp_mo D (nI j) = dmo D j := by
      unfold sp_mo
      rw [if_neg (by rintro (w | w); exact nI_pos (by omega) w; exact nI_ge (a := j) (b := 6) hj (by decide) w), nI_clamp (by omega)]
    by_cases c : j = κ
    · rw [if_pos (congrArg nI c)]
      have e1 : sp_ex (swm D κ μ) (nI j) = sp_xb D (nI κ) μ := by
        unfold sp_ex
        rw [m1, if_pos c, c]; rfl
      rw [e1, c]; omega
    · rw [if_neg (fun w => c ((nI_eq (by omega) (by omega)).mp w))]
      have e1 : sp_ex (swm D κ μ) (nI j) = sp_ex D (nI j) := by
        unfold sp_ex
        rw [m1, if_neg c, m2]; rfl
      rw [e1]; omega
theorem aM_sw {D : rD} (ok : rd_ok D) {κ : Nat} {μ : Int32} (hκ : κ < 6) (hm : μ = 0 ∨ μ = 1 ∨ μ = 2) : aM D (swm D κ μ) (dP D) = aM D D (dP D) + chB D (nI κ) μ := by
  have ok' : rd_ok (swm D κ μ) := swm_ok ok hm
  have H12 := ok.1.2
  have P6 := ok.2.1
  have b1 := (aM_int ok ok (dP D) (Nat.le_refl _)).2
  have b2 := chB_int ok (nI κ) μ
  have bb := b2.2
  unfold bL at b1 bb
  refine Int64.toInt_inj.mp ?_
  rw [i64_add (by omega) (by omega), (aM_int ok ok' (dP D) (Nat.le_refl _)).1, (aM_int ok ok (dP D) (Nat.le_refl _)).1, b2.1, (cwT_int ok (x := nI κ) (dP D) P6).1]
  rw [Int.mul_comm, ← sumI_mul, ← sumI_add]
  refine sumI_congr (fun p hp => ?_)
  rw [(we_int ok (vl := sp_vl (swm D κ μ)) (x := rul D) hp (fun q _ => vl_bd ok' p q)).1, (we_int ok (vl := sp_vl D) (x := rul D) hp (fun q _ => vl_bd ok p q)).1]
  rw [← sumI_mul, ← sumI_add]
  refine sumI_congr (fun q hq => ?_)
  have v1 : (sp_vl (swm D κ μ) p q).toInt = (sp_wd D (nI p)).toInt + (sp_ex (swm D κ μ) (dde D p q)).toInt := vl_int ok' (p := p) (q := q) hp hq
  rw [v1, vl_int ok hp hq, ex_sw ok hκ hp hq]
  unfold cI
  generalize (sp_w D (rul D) q).toInt = w
  generalize (sp_wd D (nI p)).toInt = t
  generalize (sp_ex D (dde D p q)).toInt = y
  generalize (sp_xb D (nI κ) μ).toInt - (sp_ex D (nI κ)).toInt = d
  split
  · rw [← Int.add_assoc, Int.mul_add w (t + y) d, Int.mul_comm w d]
  · rw [Int.add_zero, Int.mul_zero, Int.add_zero]
/-! RULING: the same answer -/
def rlT (D : rD) (t : Nat) : Int64 := aM D D (dP D) + chB D (nI (t / 3)) (nI (t % 3))
def rlS (D : rD) : Nat → Nat × Int64
  | 0 => (0, rlT D 0)
  | t + 1 => if lg_cmp (rlT D t) (rlS D t).2 ≤ 0 then rlS D t else (t, rlT D t)
theorem rlT_bd {D : rD} (ok : rd_ok D) (t : Nat) : bL 962280 (rlT D t) := by
  have P6 := ok.2.1
  have b1 := (aM_int ok ok (dP D) (Nat.le_refl _)).2
  have b2 := (chB_int ok (nI (t / 3)) (nI (t % 3))).2
  exact bL_mono (bL_add b1 b2 (by omega)) (by omega)
theorem rlS_bd {D : rD} (ok : rd_ok D) : ∀ t, bL 962280 (rlS D t).2 ∧ (rlS D t).1 ≤ t ∧ (0 < t → (rlS D t).1 < t)
  | 0 => ⟨rlT_bd ok 0, Nat.le_refl _, fun q => absurd q (Nat.lt_irrefl _)⟩
  | t + 1 => by
    obtain ⟨i1, i2, i3⟩ := rlS_bd ok t
    unfold rlS
    split
    · exact ⟨i1, by omega, fun _ => by omega⟩
    · exact ⟨rlT_bd ok t, by show t ≤ t + 1; omega, fun _ => by show t < t + 1; omega⟩
def rlA (x2 : Int32) (D : rD) (s : Nat × Int64) : Int32 := if 2 ≤ x2 then (sp_sd s.2 (sp_t D (rul D)).toInt64 (if x2 = 3 then 1 else 0)).toInt32 else if x2 = 0 then nI (s.1 / 3) else nI (s.1 % 3)
def s_ruling (x2 : Int32) (D : rD) : Int32 := if x2 < 0 then -1000000 else if x2 ≤ 3 then rlA x2 D (rlS D 18) else -1000000
theorem q9_ruling {x1 x2 : Int32} (a : tc h z DD N C) (hq : ∀ h', ax_same cl_F h h' → Ret (some (.int (qv (z 0) DD x1 (-1000000) (s_ruling x2)))) h') : mX9_ruling g [.ref 0, .int x1, .int x2] h Ret := by
  have z2 := a.2.2.2.2.1 0 (by decide)
  refine uX9_ruling (fun A hA => vX9_ruling_0 hA ⟨a.1.1, q_begun a (fun q => Or.inr ⟨rfl, ?_⟩) (fun k hk ex ok h' hs xs hc => Or.inl ⟨_, rfl, fun q0 => ?_, fun q0 => ⟨fun q3 => ?_, fun q3 => ?_⟩⟩)⟩)
  · have := hq h sm_rf; rwa [qv_no q] at this
  all_goals
    have hv := hq h' hs
    rw [qv_yes z2 hk ex] at hv
    unfold s_ruling at hv
  · rw [if_pos q0] at hv; exact hv
  · rw [if_neg q0, if_pos q3] at hv
    have H12 := ok.1.2
    have P6 := ok.2.1
    have od := hc.2.2
    have k2 : ∀ m i : Nat, i + m = 6 → ∀ (o11 o12 o13 : Option Value), A (82, [some (.ref 0), some (.int x1), some (.int x2), some (.ref (6 + 14 * k)), some (.long (aM (DD k) (DD k) (dP (DD k)))), none, some (.int (nI ((rlS (DD k) (3 * i)).1 / 3))), some (.int (nI ((rlS (DD k) (3 * i)).1 % 3))), some (.long (rlS (DD k) (3 * i)).2), none, some (.int (nI i)), o11, o12, o13], [], h', 0, 0) := by
      intro m
      induction m with
      | zero =>
        intro i hi o11 o12 o13
        rw [show i = 6 by omega]
        have bd : bL 962280 (rlS (DD k) (3 * 6)).2 := (rlS_bd ok 18).1
        have big : -9223372036854775808 < (rlS (DD k) (3 * 6)).2.toInt := by unfold bL at bd; omega
        unfold rlA at hv
        refine vX9_ruling_82 hA ⟨fun _ => ⟨fun c2 => ⟨xs.1, _, xs.2.1.2.2.2.2.1, od.1.1, fun n3 => ?_, fun e3 => ?_⟩, fun c2 => ⟨fun n0 => ?_, fun e0 => ?_⟩⟩, fun q => absurd (nI_le (a := 6) (b := 6) (by omega) (by omega)) q⟩
        · rw [if_pos c2, if_neg n3] at hv
          rw [od.2.2.2.1]; exact c_side big (t_pos ok) ⟨_, rfl, hv⟩
        · rw [if_pos c2, if_pos e3] at hv
          rw [od.2.2.2.1]; exact c_side big (t_pos ok) ⟨_, rfl, hv⟩
        · rw [if_neg c2, if_neg n0] at hv; exact hv
        · rw [if_neg c2, if_pos e0] at hv; exact hv
      | succ m ih =>
        intro i hi o11 o12 o13
        have nx := ih (i + 1) (by omega)
        have inn : ∀ f j : Nat, j + f = 3 → ∀ (o12 o13 : Option Value), A (92, [some (.ref 0), some (.int x1), some (.int x2), some (.ref (6 + 14 * k)), some (.long (aM (DD k) (DD k) (dP (DD k)))), none, some (.int (nI ((rlS (DD k) (3 * i + j)).1 / 3))), some (.int (nI ((rlS (DD k) (3 * i + j)).1 % 3))), some (.long (rlS (DD k) (3 * i + j)).2), none, some (.int (nI i)), some (.int (nI j)), o12, o13], [], h', 0, 0) := by
          intro f
          induction f with
          | zero =>
            intro j hj o12 o13
            refine vX9_ruling_92 hA ⟨fun _ => ?_, fun q => absurd (nI_le (a := 3) (b := j) (by omega) (by omega)) q⟩
            rw [← nI_succ, show 3 * i + j = 3 * (i + 1) by omega]; exact nx _ _ _
          | succ f ihf =>
            intro j hj o12 o13
            have st := ihf (j + 1) (by omega)
            have m1 : (3 * i + j) / 3 = i := by omega
            have m2 : (3 * i + j) % 3 = j := by omega
            have eT : rlT (DD k) (3 * i + j) = aM (DD k) (DD k) (dP (DD k)) + chB (DD k) (nI i) (nI j) := by unfold rlT; rw [m1, m2]
            have un : rlS (DD k) (3 * i + (j + 1)) = (if lg_cmp (aM (DD k) (DD k) (dP (DD k)) + chB (DD k) (nI i) (nI j)) (rlS (DD k) (3 * i + j)).2 ≤ 0 then rlS (DD k) (3 * i + j) else (3 * i + j, aM (DD k) (DD k) (dP (DD k)) + chB (DD k) (nI i) (nI j))) := by
              rw [← eT]; rfl
            refine vX9_ruling_92 hA ⟨fun q => absurd q (nI_ge (a := j) (b := 3) (by omega) (by decide)), fun _ => ⟨xs.1, c_changeByE ok xs hc ⟨_, rfl, fun c => ?_, fun c => ?_⟩⟩⟩
            · rw [un, if_pos c] at st
              rw [← nI_succ]; exact st _ _
            · rw [un, if_neg c] at st
              have st := st (some (.long (aM (DD k) (DD k) (dP (DD k)) + chB (DD k) (nI i) (nI j)))) none
              rw [show ((3 * i + j, aM (DD k) (DD k) (dP (DD k)) + chB (DD k) (nI i) (nI j)) : Nat × Int64).1 = 3 * i + j from rfl, m1, m2] at st
              rw [← nI_succ]; exact st
        exact vX9_ruling_82 hA ⟨fun q => absurd q (nI_ge (a := i) (b := 6) (by omega) (by decide)), fun _ => inn 3 0 (by decide) _ _⟩
    have k1 : ∀ m i : Nat, i + m = dP (DD k) → ∀ (o7 o8 o9 o10 o11 o12 o13 : Option Value), A (28, [some (.ref 0), some (.int x1), some (.int x2), some (.ref (6 + 14 * k)), some (.long (aM (DD k) (DD k) i)), none, some (.int (nI i)), o7, o8, o9, o10, o11, o12, o13], [], h', 0, 0) := by
      intro m
      induction m with
      | zero =>
        intro i hi o7 o8 o9 o10 o11 o12 o13
        rw [show i = dP (DD k) by omega]
        have t := k2 6 0 (by decide) o11 o12 o13
        rw [show rlS (DD k) (3 * 0) = (0, rlT (DD k) 0) from rfl, show ((0, rlT (DD k) 0) : Nat × Int64).1 = 0 from rfl, show ((0, rlT (DD k) 0) : Nat × Int64).2 = rlT (DD k) 0 from rfl] at t
        have t0 : rlT (DD k) 0 = aM (DD k) (DD k) (dP (DD k)) + chB (DD k) 0 0 := rfl
        rw [t0] at t
        refine vX9_ruling_28 hA ⟨hc.1.1.1, fun _ => ⟨xs.1, c_changeByE ok xs hc ⟨_, rfl, t⟩⟩, fun q => ?_⟩
        rw [hc.1.2.2.1.2] at q; exact absurd (nI_le (by omega) (by omega)) q
      | succ m ih =>
        intro i hi o7 o8 o9 o10 o11 o12 o13
        refine vX9_ruling_28 hA ⟨hc.1.1.1, fun q => ?_, fun _ => ⟨xs.1, _, xs.2.1.2.2.2.1, xs.1, _, xs.2.1.2.2.2.2.1, hc.2.1.1.1, c_weighed hc.2.1 od (Nat.le_refl _) ⟨_, rfl, ?_⟩⟩⟩
        · rw [hc.1.2.2.1.2] at q; exact absurd q (nI_ge (by omega) (by omega))
        · rw [← nI_succ]
          exact ih (i + 1) (by omega) _ _ _ _ _ _ _
    exact k1 (dP (DD k)) 0 (by omega) _ _ _ _ _ _ _
  · rw [if_neg q0, if_neg q3] at hv; exact hv
/-- what RULING keeps in the reference -/
def ruM (h hh : ax_H) (k : Nat) (D : rD) : Prop := ax_same md_F h hh ∧ (∃ mo, mb_at hh 77 k D mo) ∧ mw_at hh 77 (dH D) (sp_w D (rul D)) (sp_t D (rul D)) (rul D) ∧ ∀ p q, p < dP D → q < dH D → ax_i hh 91 (12 * p + q) = dde D p q
theorem c_allMeansE {hh : ax_H} {k κ : Nat} {μ : Int32} {D : rD} (ok : rd_ok D) (hm : μ = 0 ∨ μ = 1 ∨ μ = 2) (mb : mb_at hh 77 k D (dmo (swm D κ μ))) (M : ruM h hh k D) (K : ∀ h2, ruM h h2 k D → Ret (some (.long (aM D (swm D κ μ) (dP D)))) h2) : mX10_allMeans g [.ref 77] hh Ret := by
  have P6 := ok.2.1
  have H12 := ok.1.2
  have ok' : rd_ok (swm D κ μ) := swm_ok ok hm
  refine uX10_allMeans (fun A hA => vX10_allMeans_0 hA ?_)
  have key : ∀ n i : Nat, i + n = dP D → ∀ h3, mb_at h3 77 k D (dmo (swm D κ μ)) → ruM h h3 k D → A (4, [some (.ref 77), some (.long (aM D (swm D κ μ) i)), none, some (.int (nI i))], [], h3, 0, 0) := by
    intro n
    induction n with
    | zero =>
      intro i hi h3 mb M
      refine vX10_allMeans_4 hA ⟨mb.1.1, fun _ => by rw [show i = dP D by omega]; exact K _ M, fun q => ?_⟩
      rw [mb.2.2.2.2.2.1] at q; exact absurd (nI_le (by omega) (by omega)) q
    | succ n ih =>
      intro i hi h3 mb M
      refine vX10_allMeans_4 hA ⟨mb.1.1, fun q => ?_, fun _ => ⟨mb.1.1, c_mlayValues mb (rd_de_of ok) (show i < dP D by omega) (fun q hq => M.2.2.2 i q (by omega) hq) (fun h4 r4 v4 => ⟨rfl, ?_⟩)⟩⟩
      · rw [mb.2.2.2.2.2.1] at q; exact absurd q (nI_ge (by omega) (by omega))
      · have mb4 : mb_at h4 77 k D (dmo (swm D κ μ)) := mb_at_mr r4 (by unfold noJ; decide) (by decide) mb
        have mw4 := mw_mr r4 (by unfold noJ; decide) (by decide) M.2.2.1
        have M4 : ruM h h4 k D := ⟨sm_tr M.1 (sm_mono r4.1 (fun x e => by unfold md_F; omega)), ⟨_, mb4⟩, mw4, fun p q hp hq => by rw [mr_e r4 (by decide) (by decide)]; exact M.2.2.2 p q hp hq⟩
        refine ⟨mb4.1.1, x_mmeanOf mb4 (vl := sp_vl (swm D κ μ)) (fun q hq => ?_) mw4 (by omega) ⟨_, rfl, ?_⟩⟩
        · rw [show ax_i h4 (77 + 15) (12 * i + q) = _ from v4 (12 * i + q), if_pos ⟨by omega, by omega⟩, Nat.add_sub_cancel_left]
          exact vb_vl (D := swm D κ μ) (rd_de_of ok') (show i < dP D by omega) hq H12 P6 ok'.2.2.2.1
        · rw [← nI_succ]
          exact ih (i + 1) (by omega) h4 mb4 M4
  exact key (dP D) 0 (by omega) hh mb M
theorem ruM_f {hh : ax_H} {k j : Nat} {v : Int32} {D : rD} (M : ruM h hh k D) (hj : j = 34 ∨ j = 35) : ruM h (ax_pi hh 77 j v) k D := by
  obtain ⟨s, ⟨mo, b⟩, w, d⟩ := M
  have r : mr (fun i => i = j) (fun _ => False) 77 hh (ax_pi hh 77 j v) := mr_f rfl
  refine ⟨sm_tr s (sm_pi (Or.inl rfl)), ⟨fun κ => if nI κ = ax_i (ax_pi hh 77 j v) 77 34 then ax_i (ax_pi hh 77 j v) 77 35 else dmo D κ, mr_st r b.1, b.2.1, ?_, ?_, ?_, ?_, fun _ _ => rfl⟩, mw_mr r (by rcases hj with rfl | rfl <;> decide) id w, fun p q hp hq => by rw [mr_e r (by decide) id]; exact d p q hp hq⟩
  · exact rm_at_same r.1 (by rintro (q | q); exact absurd q (by decide); exact q) b.2.2.1
  · rw [(r.2 25 (by rcases hj with rfl | rfl <;> decide)).1]; exact b.2.2.2.1
  · rw [(r.2 26 (by rcases hj with rfl | rfl <;> decide)).1]; exact b.2.2.2.2.1
  · rw [(r.2 27 (by rcases hj with rfl | rfl <;> decide)).1]; exact b.2.2.2.2.2.1
theorem mb_mode {hh : ax_H} {k κ : Nat} {μ : Int32} {D : rD} (hκ : κ < 6) (M : ruM h hh k D) (e1 : ax_i hh 77 34 = nI κ) (e2 : ax_i hh 77 35 = μ) : mb_at hh 77 k D (dmo (swm D κ μ)) := by
  obtain ⟨mo, b⟩ := M.2.1
  refine ⟨b.1, b.2.1, b.2.2.1, b.2.2.2.1, b.2.2.2.2.1, b.2.2.2.2.2.1, fun j hj => ?_⟩
  show (if nI j = ax_i hh 77 34 then ax_i hh 77 35 else dmo D j) = (if j = κ then μ else dmo D j)
  rw [e1, e2]
  by_cases c : j = κ
  · rw [if_pos (congrArg nI c), if_pos c]
  · rw [if_neg (fun w => c ((nI_eq (by omega) (by omega)).mp w)), if_neg c]
theorem m_012 {t : Nat} : nI (t % 3) = 0 ∨ nI (t % 3) = 1 ∨ nI (t % 3) = 2 := by
  rcases (by omega : t % 3 = 0 ∨ t % 3 = 1 ∨ t % 3 = 2) with e | e | e <;> rw [e]
  · exact Or.inl rfl
  · exact Or.inr (Or.inl rfl)
  · exact Or.inr (Or.inr rfl)
theorem q10_ruling {x1 x2 : Int32} (a : tc h z DD N C) (hq : ∀ h', ax_same md_F h h' → Ret (some (.int (qv (z 0) DD x1 (-1000000) (s_ruling x2)))) h') : mX10_ruling g [.ref 77, .int x1, .int x2] h Ret := by
  have z2 := a.2.2.2.2.1 0 (by decide)
  obtain ⟨a1, T1, hs1⟩ := q_code (v := 0) a.2.1 a.2.2.2.1
  have bad : ∀ h', ax_same md_F h h' → ¬ (0 ≤ x2 ∧ x2 ≤ 3) → Ret (some (.int (-1000000))) h' := fun h' hs n => by
    have hv := hq h' hs
    have e : qv (z 0) DD x1 (-1000000) (s_ruling x2) = -1000000 := by
      unfold qv
      split
      · unfold s_ruling
        split
        · rfl
        · rename_i c
          split
          · rename_i d
            exact absurd ⟨Int32.not_lt.mp c, d⟩ n
          · rfl
      · rfl
    rw [e] at hv
    exact hv
  refine uX10_ruling (fun A hA => vX10_ruling_0 hA ⟨a.2.1.1, ?_⟩)
  intro h1
  refine c_min ⟨_, rfl, fun q0 => bad _ hs1 (of_decide_eq_false (b2i_0.mp q0)), fun q0 => ⟨a1.1, q_hand a1 T1 a.2.2.2.2 (fun q => ⟨_, rfl, fun q => absurd rfl q, fun _ => ?_⟩) (fun k hk ex ok h' hs hm => ⟨_, rfl, fun _ => ?_, fun q => absurd q (by decide)⟩)⟩⟩
  · have := hq _ hs1; rwa [qv_no q] at this
  obtain ⟨p0, p3⟩ := of_decide_eq_true (b2i_n0.mp q0)
  have hv : ∀ hh, ax_same md_F h hh → Ret (some (.int (rlA x2 (DD k) (rlS (DD k) 18)))) hh := fun hh s => by
    have hv := hq hh s
    rw [qv_yes z2 hk ex] at hv
    unfold s_ruling at hv
    rw [if_neg (Int32.not_lt.mpr p0), if_pos p3] at hv
    exact hv
  have M0 : ruM h h' k (DD k) := ⟨sm_tr hs1 hs, ⟨_, hm.1.1⟩, hm.2, fun p q hp hq => hm.1.2.2.1 p q hp hq⟩
  have stp : ∀ (i : Nat), i < 18 → ∀ h3, ruM h h3 k (DD k) → ∀ {R : Option Value → ax_H → Prop}, (∀ h5, ruM h h5 k (DD k) → R (some (.long (rlT (DD k) i))) h5) → mX10_allMeans g [.ref 77] (ax_pi (ax_pi h3 77 34 (nI i / 3)) 77 35 (nI i - nI i / 3 * 3)) R := fun i hi h3 M {R} K => by
    have ed : nI i / (3 : Int32) = nI (i / 3) := pk_div (d := 3) (by omega) (by decide) (by decide)
    have er : nI i - nI i / (3 : Int32) * 3 = nI (i % 3) := pk_rem (d := 3) (by omega) (by decide) (by decide)
    rw [er, ed]
    have M16 : ruM h (ax_pi (ax_pi h3 77 34 (nI (i / 3))) 77 35 (nI (i % 3))) k (DD k) := ruM_f (ruM_f M (Or.inl rfl)) (Or.inr rfl)
    have mb := mb_mode (κ := i / 3) (μ := nI (i % 3)) (by omega) M16 (by rw [ai_pi, if_neg (by omega)]; exact ai_eq) ai_eq
    refine c_allMeansE ok m_012 mb M16 (fun h2 M2 => ?_)
    rw [aM_sw ok (by omega) m_012]
    exact K h2 M2
  have fin : ∀ h3, ruM h h3 k (DD k) → ∀ (o7 o8 : Option Value), A (34, [some (.ref 77), some (.int x1), some (.int x2), some (.int (nI (rlS (DD k) 18).1)), some (.long (rlS (DD k) 18).2), none, some (.int (nI 18)), o7, o8], [], h3, 0, 0) := by
    intro h3 M o7 o8
    have bd := rlS_bd ok 18
    have big : -9223372036854775808 < (rlS (DD k) 18).2.toInt := by have := bd.1; unfold bL at this; omega
    obtain ⟨mo, mb⟩ := M.2.1
    refine vX10_ruling_34 hA ⟨fun _ => ⟨mb.1.1, ?_⟩, fun q => absurd (nI_le (a := 18) (b := 18) (by omega) (by omega)) q⟩
    intro u8
    have M8 : ruM h u8 k (DD k) := ruM_f M (Or.inl rfl)
    have mw := M8.2.2.1
    have hw := hv u8 M8.1
    unfold rlA at hw
    refine ⟨fun n0 => ⟨fun n1 => ⟨mb.1.1, fun n3 => ?_, fun e3 => ?_⟩, fun e1 => ⟨by decide, ?_⟩⟩, fun e0 => ⟨by decide, ?_⟩⟩
    · have c2 : (2 : Int32) ≤ x2 := by
        have z0 : (0 : Int32).toInt = 0 := rfl
        have z1 : (1 : Int32).toInt = 1 := rfl
        have z2 : (2 : Int32).toInt = 2 := rfl
        have a0 : ¬ x2.toInt = 0 := fun q => n0 (i_inj (q.trans z0.symm))
        have a1 : ¬ x2.toInt = 1 := fun q => n1 (i_inj (q.trans z1.symm))
        rw [i_le] at p0 ⊢
        omega
      rw [if_pos c2, if_neg n3] at hw
      rw [mw.2.1]; exact c_part big (t_pos ok) ⟨_, rfl, hw⟩
    · rw [if_pos (by rw [e3]; decide), if_pos e3] at hw
      rw [mw.2.1]; exact c_part big (t_pos ok) ⟨_, rfl, hw⟩
    · rw [if_neg (by rw [e1]; decide), if_neg n0] at hw
      rw [show (3 : Int32) = nI 3 from rfl, pk_rem (by have := bd.2.1; omega) (by decide) (by decide)]
      exact hw
    · rw [if_neg (by rw [e0]; decide), if_pos e0] at hw
      rw [show (3 : Int32) = nI 3 from rfl, pk_div (by have := bd.2.1; omega) (by decide) (by decide)]
      exact hw
  have key : ∀ n i : Nat, i + n = 18 → 0 < i → ∀ h3, ruM h h3 k (DD k) → ∀ (o7 o8 : Option Value), A (34, [some (.ref 77), some (.int x1), some (.int x2), some (.int (nI (rlS (DD k) i).1)), some (.long (rlS (DD k) i).2), none, some (.int (nI i)), o7, o8], [], h3, 0, 0) := by
    intro n
    induction n with
    | zero =>
      intro i hi i0 h3 M o7 o8
      rw [show i = 18 by omega]
      exact fin h3 M o7 o8
    | succ n ih =>
      intro i hi i0 h3 M o7 o8
      obtain ⟨mo, mb⟩ := M.2.1
      have bd := rlS_bd ok i
      have lt := bd.2.2 i0
      refine vX10_ruling_34 hA ⟨fun q => absurd q (nI_ge (a := i) (b := 18) (by omega) (by decide)), fun _ => ⟨by decide, mb.1.1, ?_⟩⟩
      intro u15
      refine ⟨by decide, mb.1.1, ?_⟩
      intro u16
      refine ⟨mb.1.1, stp i (by omega) h3 M (fun h5 M5 => ⟨_, rfl, fun e => absurd e (nI_nm1 (by omega)), fun _ => ⟨fun c => ⟨fun _ => ?_, fun e => absurd ((nI_eq (by omega) (by omega)).mp e) (by omega)⟩, fun c => ⟨fun e => absurd rfl e, fun _ => ?_⟩⟩⟩)⟩
      · have st := ih (i + 1) (by omega) (by omega) h5 M5
        rw [show rlS (DD k) (i + 1) = rlS (DD k) i from if_pos c] at st
        rw [← nI_succ]; exact st _ _
      · have st := ih (i + 1) (by omega) (by omega) h5 M5
        rw [show rlS (DD k) (i + 1) = (i, rlT (DD k) i) from if_neg c] at st
        rw [← nI_succ]; exact st _ _
  obtain ⟨mo, mb⟩ := M0.2.1
  refine vX10_ruling_34 hA ⟨fun q => absurd q (by decide), fun _ => ⟨by decide, mb.1.1, ?_⟩⟩
  intro u15
  refine ⟨by decide, mb.1.1, ?_⟩
  intro u16
  refine ⟨mb.1.1, stp 0 (by decide) h' M0 (fun h5 M5 => ⟨_, rfl, fun _ => ⟨fun e => absurd rfl e, fun _ => ?_⟩, fun e => absurd rfl e⟩)⟩
  have st := key 17 1 (by decide) (by decide) h5 M5
  rw [show rlS (DD k) 1 = (0, rlT (DD k) 0) from by
    show (if lg_cmp (rlT (DD k) 0) (rlT (DD k) 0) ≤ 0 then (0, rlT (DD k) 0) else (0, rlT (DD k) 0)) = (0, rlT (DD k) 0)
    split <;> rfl] at st
  exact st _ _
theorem g_ruling (a : IV h S Im tp) (b : 103 ≤ h.1 ∧ h.1 ≤ B) (x1 x2 : Int32) : prI (mX9_ruling g) (mX10_ruling g) [.ref 0, .int x1, .int x2] [.ref 77, .int x1, .int x2] h (inv B) := pr_q _ a b (fun Ret k => q9_ruling (iv_tc a) k) (fun h1 Ret a1 k => q10_ruling (iv_tc a1) k)
end
