section
variable {g : ax_G} {Ret : Option Value → ax_H → Prop} {h : ax_H} {z : Nat → Nat} {DD : Nat → rD} {N : Nat → Nat → Nat} {C : Nat → Nat → Nat → Nat → Int32} {S : sT} {Im : Nat → Option sT} {tp : Nat → Nat} {B : Nat}
/-! sums told as integers -/
def sumI (f : Nat → Int) : Nat → Int
  | 0 => 0
  | n + 1 => sumI f n + f n
theorem sumI_le {f k : Nat → Int} : ∀ {n : Nat}, (∀ i, i < n → f i ≤ k i) → sumI f n ≤ sumI k n
  | 0, _ => Int.le_refl _
  | n + 1, h => Int.add_le_add (sumI_le (n := n) (fun i hi => h i (by omega))) (h n (by omega))
theorem sumI_mul {f : Nat → Int} {c : Int} : ∀ n, sumI (fun i => c * f i) n = c * sumI f n
  | 0 => (Int.mul_zero c).symm
  | n + 1 => by
    show sumI (fun i => c * f i) n + c * f n = c * (sumI f n + f n)
    rw [sumI_mul n, Int.mul_add]
theorem sumI_congr {f k : Nat → Int} : ∀ {n : Nat}, (∀ i, i < n → f i = k i) → sumI f n = sumI k n
  | 0, _ => rfl
  | n + 1, h => by
    show sumI f n + f n = sumI k n + k n
    rw [sumI_congr (n := n) (fun i hi => h i (by omega)), h n (by omega)]
theorem sumL_int {f : Nat → Int64} {b : Int} (hb : 0 ≤ b) : ∀ {n : Nat}, (∀ i, i < n → -b ≤ (f i).toInt ∧ (f i).toInt ≤ b) → b * n < 9223372036854775807 → (sumL f n).toInt = sumI (fun i => (f i).toInt) n ∧ -(b * n) ≤ (sumL f n).toInt ∧ (sumL f n).toInt ≤ b * n
  | 0, _, _ => by
    have : (sumL f 0).toInt = 0 := rfl
    refine ⟨rfl, ?_, ?_⟩
    · rw [this]; simp
    · rw [this]; simp
  | n + 1, h, hn => by
    have e1 : b * ((n + 1 : Nat) : Int) = b * (n : Int) + b := by
      rw [show ((n + 1 : Nat) : Int) = (n : Int) + 1 from rfl, Int.mul_add, Int.mul_one]
    rw [e1] at hn ⊢
    have ih := sumL_int hb (n := n) (fun i hi => h i (by omega)) (by omega)
    have hl := h n (by omega)
    have e : (sumL f (n + 1)).toInt = (sumL f n).toInt + (f n).toInt := i64_add (by omega) (by omega)
    refine ⟨?_, by omega, by omega⟩
    rw [e, ih.1]
    rfl
theorem sumN_int {f : Nat → Int32} {b : Int} (hb : 0 ≤ b) : ∀ {n : Nat}, (∀ i, i < n → -b ≤ (f i).toInt ∧ (f i).toInt ≤ b) → b * n < 2147483647 → (sumN f n).toInt = sumI (fun i => (f i).toInt) n ∧ -(b * n) ≤ (sumN f n).toInt ∧ (sumN f n).toInt ≤ b * n
  | 0, _, _ => by
    have : (sumN f 0).toInt = 0 := rfl
    refine ⟨rfl, ?_, ?_⟩
    · rw [this]; simp
    · rw [this]; simp
  | n + 1, h, hn => by
    have e1 : b * ((n + 1 : Nat) : Int) = b * (n : Int) + b := by
      rw [show ((n + 1 : Nat) : Int) = (n : Int) + 1 from rfl, Int.mul_add, Int.mul_one]
    rw [e1] at hn ⊢
    have ih := sumN_int hb (n := n) (fun i hi => h i (by omega)) (by omega)
    have hl := h n (by omega)
    have e : (sumN f (n + 1)).toInt = (sumN f n).toInt + (f n).toInt := i32_add (by omega) (by omega)
    refine ⟨?_, by omega, by omega⟩
    rw [e, ih.1]
    rfl
/-- all weights, as a sum -/
theorem t_sum {D : rD} (ok : rd_ok D) (x : Int32) : (sp_t D x).toInt = sumI (fun q => (sp_w D x q).toInt) (dH D) := by
  have H12 := ok.1.2
  by_cases c : sp_ws D x = 0
  · have e : ∀ n, sumI (fun q => (sp_w D x q).toInt) n = n := by
      intro n
      induction n with
      | zero => rfl
      | succ n ih =>
        show sumI (fun q => (sp_w D x q).toInt) n + (sp_w D x n).toInt = _
        rw [ih, show sp_w D x n = 1 from if_pos c]
        rfl
    rw [e, show sp_t D x = nI (dH D) from if_pos c, nI_toInt (by omega)]
  · rw [show sp_t D x = sp_ws D x from if_neg c]
    have t := sumN_int (f := fun q => sp_lo D x (nI q)) (b := 9) (n := dH D) (by decide) (fun i _ => by have := sp_lo_bd ok x (nI i); omega) (by omega)
    unfold sp_ws
    rw [t.1]
    exact sumI_congr (fun q _ => by show _ = (sp_w D x q).toInt; rw [show sp_w D x q = sp_lo D x (nI q) from if_neg c])
theorem bst_max (f : Nat → Int32) : ∀ n q, q ≤ n → (f q).toInt ≤ (f (bst f n)).toInt
  | 0, q, h => by
    rw [show q = 0 by omega]
    exact Int.le_refl _
  | n + 1, q, h => by
    unfold bst
    by_cases c : f (bst f n) < f (n + 1)
    · rw [if_pos c]
      rw [i_lt] at c
      rcases Nat.lt_or_ge n q with d | d
      · rw [show q = n + 1 by omega]; exact Int.le_refl _
      · have := bst_max f n q d; omega
    · rw [if_neg c]
      rw [i_lt] at c
      rcases Nat.lt_or_ge n q with d | d
      · rw [show q = n + 1 by omega]; omega
      · exact bst_max f n q d
/-- one's wish never brings less than the mean -/
theorem gn_nn {D : rD} (ok : rd_ok D) {p : Nat} (hp : p < dP D) : 0 ≤ (s_gn D (nI p) (sp_bh (dP D) (dH D) (sp_vl D) (nI p))).toInt := by
  have H12 := ok.1.2
  have H2 := ok.1.1
  have P6 := ok.2.1
  have bx : bst (fun q => sp_br (dP D) (dH D) (sp_vl D) (nI p) (nI q)) (dH D - 1) < dH D := by have := bst_le (fun q => sp_br (dP D) (dH D) (sp_vl D) (nI p) (nI q)) (dH D - 1); omega
  have mx := bst_max (fun q => sp_br (dP D) (dH D) (sp_vl D) (nI p) (nI q)) (dH D - 1)
  have vb : ∀ q, q < dH D → -1287 ≤ (sp_br (dP D) (dH D) (sp_vl D) (nI p) (nI q)).toInt ∧ (sp_br (dP D) (dH D) (sp_vl D) (nI p) (nI q)).toInt ≤ 1287 := fun q hq => by
    rw [sp_br_in hp hq (by omega) (by omega)]; exact vl_bd ok p q
  have bb := vb _ bx
  have tb := sp_t_bd ok (rul D)
  have wb := sp_w_bd ok (rul D)
  unfold s_gn sp_ga sp_we
  rw [show sp_bh (dP D) (dH D) (sp_vl D) (nI p) = nI (bst (fun q => sp_br (dP D) (dH D) (sp_vl D) (nI p) (nI q)) (dH D - 1)) from rfl]
  generalize bst (fun q => sp_br (dP D) (dH D) (sp_vl D) (nI p) (nI q)) (dH D - 1) = β at bx mx bb ⊢
  have pr : ∀ q, q < dH D → ((sp_w D (rul D) q).toInt64 * (sp_br (dP D) (dH D) (sp_vl D) (nI p) (nI q)).toInt64).toInt = (sp_w D (rul D) q).toInt * (sp_br (dP D) (dH D) (sp_vl D) (nI p) (nI q)).toInt ∧ -11583 ≤ (sp_w D (rul D) q).toInt * (sp_br (dP D) (dH D) (sp_vl D) (nI p) (nI q)).toInt ∧ (sp_w D (rul D) q).toInt * (sp_br (dP D) (dH D) (sp_vl D) (nI p) (nI q)).toInt ≤ 11583 ∧ (sp_w D (rul D) q).toInt * (sp_br (dP D) (dH D) (sp_vl D) (nI p) (nI q)).toInt ≤ (sp_br (dP D) (dH D) (sp_vl D) (nI p) (nI β)).toInt * (sp_w D (rul D) q).toInt := fun q hq => by
    have w1 := wb q
    have v1 := vb q hq
    have m1 := mx q (by omega)
    generalize sp_w D (rul D) q = w at w1 ⊢
    have m1 : (sp_br (dP D) (dH D) (sp_vl D) (nI p) (nI q)).toInt ≤ (sp_br (dP D) (dH D) (sp_vl D) (nI p) (nI β)).toInt := m1
    generalize sp_br (dP D) (dH D) (sp_vl D) (nI p) (nI q) = v at v1 m1 ⊢
    have u1 : w.toInt * v.toInt ≤ w.toInt * 1287 := Int.mul_le_mul_of_nonneg_left v1.2 w1.1
    have u2 : w.toInt * (-1287) ≤ w.toInt * v.toInt := Int.mul_le_mul_of_nonneg_left v1.1 w1.1
    have u3 : w.toInt * v.toInt ≤ w.toInt * (sp_br (dP D) (dH D) (sp_vl D) (nI p) (nI β)).toInt := Int.mul_le_mul_of_nonneg_left m1 w1.1
    rw [Int.mul_comm w.toInt (sp_br (dP D) (dH D) (sp_vl D) (nI p) (nI β)).toInt] at u3
    refine ⟨?_, by omega, by omega, u3⟩
    rw [i64_mul (by rw [i_64, i_64]; omega) (by rw [i_64, i_64]; omega), i_64, i_64]
  have sl := sumL_int (f := fun q => (sp_w D (rul D) q).toInt64 * (sp_br (dP D) (dH D) (sp_vl D) (nI p) (nI q)).toInt64) (b := 11583) (n := dH D) (by decide) (fun q hq => by
    have := pr q hq
    show -11583 ≤ ((sp_w D (rul D) q).toInt64 * (sp_br (dP D) (dH D) (sp_vl D) (nI p) (nI q)).toInt64).toInt ∧ _
    rw [this.1]; omega) (by omega)
  have le : sumI (fun q => ((sp_w D (rul D) q).toInt64 * (sp_br (dP D) (dH D) (sp_vl D) (nI p) (nI q)).toInt64).toInt) (dH D) ≤ (sp_br (dP D) (dH D) (sp_vl D) (nI p) (nI β)).toInt * (sp_t D (rul D)).toInt := by
    rw [t_sum ok, ← sumI_mul]
    exact sumI_le (fun q hq => by
      have := pr q hq
      show ((sp_w D (rul D) q).toInt64 * (sp_br (dP D) (dH D) (sp_vl D) (nI p) (nI q)).toInt64).toInt ≤ _
      rw [this.1]; exact this.2.2.2)
  generalize sumL (fun q => (sp_w D (rul D) q).toInt64 * (sp_br (dP D) (dH D) (sp_vl D) (nI p) (nI q)).toInt64) (dH D) = s at sl ⊢
  rw [← sl.1] at le
  generalize sp_br (dP D) (dH D) (sp_vl D) (nI p) (nI β) = v at bb le ⊢
  generalize sp_t D (rul D) = t at tb le ⊢
  have u1 : t.toInt * v.toInt ≤ t.toInt * 1287 := Int.mul_le_mul_of_nonneg_left bb.2 (by omega)
  have u2 : t.toInt * (-1287) ≤ t.toInt * v.toInt := Int.mul_le_mul_of_nonneg_left bb.1 (by omega)
  rw [Int.mul_comm t.toInt v.toInt] at u1 u2
  have e3 : (v.toInt64 * t.toInt64).toInt = v.toInt * t.toInt := by
    rw [i64_mul (by rw [i_64, i_64]; omega) (by rw [i_64, i_64]; omega), i_64, i_64]
  rw [i64_sub (by rw [e3]; omega) (by rw [e3]; omega), e3]
  omega
/-! BUYER: the same answer -/
theorem cmp_le0 {x y : Int64} : lg_cmp x y ≤ 0 ↔ x.toInt ≤ y.toInt := by
  unfold lg_cmp
  by_cases c : x > y
  · rw [if_pos c]
    have c : y.toInt < x.toInt := l_lt.mp c
    exact ⟨fun q => absurd q (by decide), fun _ => by omega⟩
  · rw [if_neg c]
    have c : ¬ y.toInt < x.toInt := fun q => c (l_lt.mpr q)
    by_cases d : x = y
    · rw [if_pos d, d]
      exact ⟨fun _ => Int.le_refl _, fun _ => by decide⟩
    · rw [if_neg d]
      exact ⟨fun _ => by omega, fun _ => by decide⟩
def byG (D : rD) (p : Nat) : Int64 := s_gn D (nI p) (sp_bh (dP D) (dH D) (sp_vl D) (nI p))
def byS (G : Nat → Int64) : Nat → Nat × Int64
  | 0 => (0, 0)
  | n + 1 => if lg_cmp (G (n + 1)) (G (byS G n).1) ≤ 0 then ((byS G n).1, if G (n + 1) < (byS G n).2 then (byS G n).2 else G (n + 1)) else (n + 1, G (byS G n).1)
def rpS (G : Nat → Int64) (c : Nat) : Nat → Int64
  | 0 => 0
  | i + 1 => if i = c then rpS G c i else if lg_cmp (G i) (rpS G c i) ≤ 0 then rpS G c i else G i
theorem rp_up {G : Nat → Int64} {c : Nat} {M : Int} (h0 : 0 ≤ M) : ∀ k, (∀ q, q < k → (G q).toInt ≤ M) → (rpS G c k).toInt ≤ M
  | 0, _ => h0
  | k + 1, h => by
    unfold rpS
    have ih := rp_up (c := c) h0 k (fun q hq => h q (by omega))
    split
    · exact ih
    · split
      · exact ih
      · exact h k (by omega)
theorem rp_lo {G : Nat → Int64} {c : Nat} : ∀ k q, q < k → q ≠ c → (G q).toInt ≤ (rpS G c k).toInt
  | 0, q, h, _ => by omega
  | k + 1, q, h, n => by
    unfold rpS
    split
    · rename_i e
      exact rp_lo k q (by omega) n
    · rename_i e
      split
      · rename_i d
        rw [cmp_le0] at d
        rcases Nat.lt_or_ge q k with f | f
        · exact rp_lo k q f n
        · rw [show q = k by omega]; exact d
      · rename_i d
        rw [cmp_le0] at d
        rcases Nat.lt_or_ge q k with f | f
        · have := rp_lo (G := G) k q f n; omega
        · rw [show q = k by omega]; exact Int.le_refl _
theorem by_inv {G : Nat → Int64} : ∀ n, (∀ q, q ≤ n → 0 ≤ (G q).toInt) → (byS G n).1 ≤ n ∧ (∀ q, q ≤ n → (G q).toInt ≤ (G (byS G n).1).toInt) ∧ (byS G n).2 = rpS G (byS G n).1 (n + 1)
  | 0, _ => ⟨Nat.le_refl _, fun q hq => by rw [show q = 0 by omega]; exact Int.le_refl _, rfl⟩
  | n + 1, h => by
    obtain ⟨i1, i2, i3⟩ := by_inv (G := G) n (fun q hq => h q (by omega))
    by_cases c : lg_cmp (G (n + 1)) (G (byS G n).1) ≤ 0
    · have e : byS G (n + 1) = ((byS G n).1, if G (n + 1) < (byS G n).2 then (byS G n).2 else G (n + 1)) := if_pos c
      rw [e]
      rw [cmp_le0] at c
      refine ⟨show (byS G n).1 ≤ n + 1 by omega, fun q hq => ?_, ?_⟩
      · show (G q).toInt ≤ (G (byS G n).1).toInt
        rcases Nat.lt_or_ge n q with d | d
        · rw [show q = n + 1 by omega]; exact c
        · exact i2 q d
      · show (if G (n + 1) < (byS G n).2 then (byS G n).2 else G (n + 1)) = (if n + 1 = (byS G n).1 then rpS G (byS G n).1 (n + 1) else if lg_cmp (G (n + 1)) (rpS G (byS G n).1 (n + 1)) ≤ 0 then rpS G (byS G n).1 (n + 1) else G (n + 1))
        rw [if_neg (show ¬ n + 1 = (byS G n).1 by omega), ← i3]
        by_cases d : G (n + 1) < (byS G n).2
        · rw [if_pos d]
          rw [l_lt] at d
          rw [if_pos (cmp_le0.mpr (by omega))]
        · rw [if_neg d]
          rw [l_lt] at d
          by_cases f : lg_cmp (G (n + 1)) (byS G n).2 ≤ 0
          · rw [if_pos f]
            rw [cmp_le0] at f
            exact Int64.toInt_inj.mp (by omega)
          · rw [if_neg f]
    · have e : byS G (n + 1) = (n + 1, G (byS G n).1) := if_neg c
      rw [e]
      rw [cmp_le0] at c
      refine ⟨Nat.le_refl _, fun q hq => ?_, ?_⟩
      · show (G q).toInt ≤ (G (n + 1)).toInt
        rcases Nat.lt_or_ge n q with d | d
        · rw [show q = n + 1 by omega]; exact Int.le_refl _
        · have := i2 q d; omega
      · show G (byS G n).1 = (if n + 1 = n + 1 then rpS G (n + 1) (n + 1) else _)
        rw [if_pos rfl]
        have a1 := rp_lo (G := G) (c := n + 1) (n + 1) (byS G n).1 (by omega) (by omega)
        have a2 := rp_up (G := G) (c := n + 1) (h _ (show (byS G n).1 ≤ n + 1 by omega)) (n + 1) (fun q hq => i2 q (by omega))
        exact Int64.toInt_inj.mp (by omega)
def byA (x2 : Int32) (D : rD) (s : Nat × Int64) : Int32 := if x2 = 0 then nI s.1 else (sp_sd s.2 (sp_t D (rul D)).toInt64 (if x2 = 2 then 1 else 0)).toInt32
def s_buyer (x2 : Int32) (D : rD) : Int32 := if dP D = 0 then -1000000 else if x2 < 0 then -1000000 else if x2 ≤ 2 then byA x2 D (byS (byG D) (dP D - 1)) else -1000000
theorem byG_bd {D : rD} (ok : rd_ok D) (p : Nat) : gB (byG D p) := gn_bd ok _ _
theorem byS_bd {D : rD} (ok : rd_ok D) : ∀ n, gB (byS (byG D) n).2
  | 0 => by show gB 0; unfold gB; decide
  | n + 1 => by
    have ih := byS_bd ok n
    unfold byS
    split
    · show gB (if byG D (n + 1) < (byS (byG D) n).2 then (byS (byG D) n).2 else byG D (n + 1))
      split
      · exact ih
      · exact byG_bd ok _
    · exact byG_bd ok _
theorem nI_z {n : Nat} (hn : n < 2 ^ 31) : nI n = 0 ↔ n = 0 := by
  rw [← nI_0]; exact nI_eq hn (by decide)
theorem q9_buyer {x1 x2 : Int32} (a : tc h z DD N C) (hq : ∀ h', ax_same cl_F h h' → Ret (some (.int (qv (z 0) DD x1 (-1000000) (s_buyer x2)))) h') : mX9_buyer g [.ref 0, .int x1, .int x2] h Ret := by
  have z2 := a.2.2.2.2.1 0 (by decide)
  refine uX9_buyer (fun A hA => vX9_buyer_0 hA ⟨a.1.1, q_begun a (fun q => Or.inr ⟨rfl, ?_⟩) (fun k hk ex ok h' hs xs hc => Or.inl ⟨_, rfl, hc.1.1.1, fun q0 => ?_, fun q0 => ⟨fun q1 => ?_, fun q1 => ⟨fun q2 => ⟨xs.1, _, xs.2.1.2.2.2.1, hc.2.1.1.1, c_bestHour (by have := ok.1.1; omega) hc.2.1 ⟨_, rfl, xs.1, c_gainBy xs hc ⟨_, rfl, ?_⟩⟩⟩, fun q2 => ?_⟩⟩⟩)⟩)
  · have := hq h sm_rf; rwa [qv_no q] at this
  all_goals
    have hv := hq h' hs
    rw [qv_yes z2 hk ex] at hv
    unfold s_buyer at hv
    have P6 := ok.2.1
    have e6 := hc.1.2.2.1.2
    rw [e6, nI_z (by omega)] at q0
  · rw [if_pos q0] at hv; exact hv
  · rw [if_neg q0, if_pos q1] at hv; exact hv
  · rw [if_neg q0, if_neg q1, if_pos q2] at hv
    have key : ∀ n i : Nat, i + 1 + n = dP (DD k) → ∀ (o10 o11 : Option Value), A (53, [some (.ref 0), some (.int x1), some (.int x2), some (.ref (6 + 14 * k)), some (.int (nI (byS (byG (DD k)) i).1)), some (.long (byG (DD k) (byS (byG (DD k)) i).1)), none, some (.long (byS (byG (DD k)) i).2), none, some (.int (nI (i + 1))), o10, o11], [], h', 0, 0) := by
      intro n
      induction n with
      | zero =>
        intro i hi o10 o11
        rw [show dP (DD k) - 1 = i by omega] at hv
        have b7 := byS_bd ok i
        unfold byA at hv
        refine vX9_buyer_53 hA ⟨hc.1.1.1, fun _ => ⟨fun n0 => ⟨xs.1, _, xs.2.1.2.2.2.2.1, hc.2.2.1.1, fun n2 => ?_, fun e2 => ?_⟩, fun e0 => ?_⟩, fun q => ?_⟩
        · rw [if_neg n0, if_neg n2] at hv
          rw [hc.2.2.2.2.2.1]; exact c_side (by unfold gB at b7; omega) (t_pos ok) ⟨_, rfl, hv⟩
        · rw [if_neg n0, if_pos e2] at hv
          rw [hc.2.2.2.2.2.1]; exact c_side (by unfold gB at b7; omega) (t_pos ok) ⟨_, rfl, hv⟩
        · rw [if_pos e0] at hv; exact hv
        · rw [e6] at q; exact absurd (nI_le (by omega) (by omega)) q
      | succ n ih =>
        intro i hi o10 o11
        have st := ih (i + 1) (by omega)
        refine vX9_buyer_53 hA ⟨hc.1.1.1, fun q => ?_, fun q => ⟨xs.1, _, xs.2.1.2.2.2.1, hc.2.1.1.1, c_bestHour (by have := ok.1.1; omega) hc.2.1 ⟨_, rfl, xs.1, c_gainBy xs hc ⟨_, rfl, fun q1 => ?_, fun q1 => ?_⟩⟩⟩⟩
        · rw [e6] at q; exact absurd q (nI_ge (by omega) (by omega))
        · rw [show byS (byG (DD k)) (i + 1) = ((byS (byG (DD k)) i).1, if byG (DD k) (i + 1) < (byS (byG (DD k)) i).2 then (byS (byG (DD k)) i).2 else byG (DD k) (i + 1)) from if_pos q1] at st
          rw [← nI_succ]
          exact st _ _
        · rw [show byS (byG (DD k)) (i + 1) = (i + 1, byG (DD k) (byS (byG (DD k)) i).1) from if_neg q1] at st
          rw [← nI_succ]
          exact st _ _
    exact key (dP (DD k) - 1) 0 (by omega) _ _
  · rw [if_neg q0, if_neg q1, if_neg q2] at hv; exact hv
theorem q10_buyer {x1 x2 : Int32} (a : tc h z DD N C) (hq : ∀ h', ax_same md_F h h' → Ret (some (.int (qv (z 0) DD x1 (-1000000) (s_buyer x2)))) h') : mX10_buyer g [.ref 77, .int x1, .int x2] h Ret := by
  have z2 := a.2.2.2.2.1 0 (by decide)
  obtain ⟨a1, T1, hs1⟩ := q_code (v := 0) a.2.1 a.2.2.2.1
  have bad : ∀ h', ax_same md_F h h' → ¬ (0 ≤ x2 ∧ x2 ≤ 2) → Ret (some (.int (-1000000))) h' := fun h' hs n => by
    have hv := hq h' hs
    have e : qv (z 0) DD x1 (-1000000) (s_buyer x2) = -1000000 := by
      unfold qv
      split
      · unfold s_buyer
        split
        · rfl
        · split
          · rfl
          · rename_i c
            split
            · rename_i d
              exact absurd ⟨Int32.not_lt.mp c, d⟩ n
            · rfl
      · rfl
    rw [e] at hv
    exact hv
  refine uX10_buyer (fun A hA => vX10_buyer_0 hA ⟨a.2.1.1, ?_⟩)
  intro h1
  refine c_min ⟨_, rfl, fun q0 => bad _ hs1 (of_decide_eq_false (b2i_0.mp q0)), fun q1 => ⟨a1.1, q_hand a1 T1 a.2.2.2.2 (fun q => ⟨_, rfl, fun _ => ?_, fun q => absurd rfl q⟩) (fun k hk ex ok h' hs hm => ⟨_, rfl, fun q => absurd q (by decide), fun _ => ⟨hm.1.1.1.1, fun q0 => ?_, fun q0 => ?_⟩⟩)⟩⟩
  · have := hq _ hs1; rwa [qv_no q] at this
  all_goals
    obtain ⟨p0, p2⟩ := of_decide_eq_true (b2i_n0.mp q1)
    have hv := hq h' (sm_tr hs1 hs)
    rw [qv_yes z2 hk ex] at hv
    unfold s_buyer at hv
    have P6 := ok.2.1
    have mb := hm.1.1
    have e27 := mb.2.2.2.2.2.1
    rw [e27, nI_z (by omega)] at q0
  · rw [if_neg q0, if_neg (Int32.not_lt.mpr p0), if_pos p2] at hv
    have s0 := mb.1.1
    have H12 := ok.1.2
    have H2 := ok.1.1
    have nn : ∀ p, p < dP (DD k) → 0 ≤ (byG (DD k) p).toInt := fun p hp => gn_nn ok hp
    obtain ⟨j1, j2, j3⟩ := by_inv (G := byG (DD k)) (dP (DD k) - 1) (fun q hq => nn q (by omega))
    rw [show dP (DD k) - 1 + 1 = dP (DD k) by omega] at j3
    have bh : ∀ p : Nat, sp_bh (dP (DD k)) (dH (DD k)) (sp_vl (DD k)) (nI p) = nI (bst (fun q => sp_br (dP (DD k)) (dH (DD k)) (sp_vl (DD k)) (nI p) (nI q)) (dH (DD k) - 1)) ∧ bst (fun q => sp_br (dP (DD k)) (dH (DD k)) (sp_vl (DD k)) (nI p) (nI q)) (dH (DD k) - 1) < dH (DD k) := fun p => ⟨rfl, by have := bst_le (fun q => sp_br (dP (DD k)) (dH (DD k)) (sp_vl (DD k)) (nI p) (nI q)) (dH (DD k) - 1); omega⟩
    have gO : ∀ {p : Nat} {R : Option Value → ax_H → Prop}, p < dP (DD k) → R (some (.long (byG (DD k) p))) h' → mX10_gainOf g [.ref 77, .int (nI p), .int (sp_bh (dP (DD k)) (dH (DD k)) (sp_vl (DD k)) (nI p))] h' R := fun {p R} hp r => by
      rw [(bh p).1]
      exact c_mgainOf hm.1 hm.2 hp (bh p).2 r
    have key2 : ∀ n i : Nat, i + n = dP (DD k) → ∀ (x6 : Int32) (o8 o9 : Option Value), (x6 = 0 → rpS (byG (DD k)) (byS (byG (DD k)) (dP (DD k) - 1)).1 i = 0) → A (95, [some (.ref 77), some (.int x1), some (.int x2), some (.int (nI (byS (byG (DD k)) (dP (DD k) - 1)).1)), some (.long (rpS (byG (DD k)) (byS (byG (DD k)) (dP (DD k) - 1)).1 i)), none, some (.int x6), some (.int (nI i)), o8, o9], [], h', 0, 0) := by
      intro n
      induction n with
      | zero =>
        intro i hi x6 o8 o9 _
        rw [show i = dP (DD k) by omega, ← j3]
        have b4 := byS_bd ok (dP (DD k) - 1)
        unfold byA at hv
        refine vX10_buyer_95 hA ⟨s0, fun _ => ⟨fun n0 => ⟨s0, fun n2 => ?_, fun e2 => ?_⟩, fun e0 => ?_⟩, fun q => ?_⟩
        · rw [if_neg n0, if_neg n2] at hv
          rw [hm.2.2.1]; exact c_part (by unfold gB at b4; omega) (t_pos ok) ⟨_, rfl, hv⟩
        · rw [if_neg n0, if_pos e2] at hv
          rw [hm.2.2.1]; exact c_part (by unfold gB at b4; omega) (t_pos ok) ⟨_, rfl, hv⟩
        · rw [if_pos e0] at hv; exact hv
        · rw [e27] at q; exact absurd (nI_le (by omega) (by omega)) q
      | succ n ih =>
        intro i hi x6 o8 o9 z6
        have st := ih (i + 1) (by omega)
        have ng := nn i (by omega)
        refine vX10_buyer_95 hA ⟨s0, fun q => ?_, fun q => ⟨fun e => ?_, fun ne => ⟨s0, c_mwishOf (by omega) hm.1 (by omega) ⟨_, rfl, s0, gO (by omega) ⟨_, rfl, fun f0 => ?_, fun f0 => ⟨fun c => ?_, fun c => ?_⟩⟩⟩⟩⟩⟩
        · rw [e27] at q; exact absurd q (nI_ge (by omega) (by omega))
        · rw [nI_eq (by omega) (by omega)] at e
          rw [show rpS (byG (DD k)) (byS (byG (DD k)) (dP (DD k) - 1)).1 (i + 1) = rpS (byG (DD k)) (byS (byG (DD k)) (dP (DD k) - 1)).1 i from if_pos e] at st
          rw [← nI_succ]
          exact st x6 _ _ z6
        all_goals
          rw [nI_eq (by omega) (by omega)] at ne
          rw [show rpS (byG (DD k)) (byS (byG (DD k)) (dP (DD k) - 1)).1 (i + 1) = (if lg_cmp (byG (DD k) i) (rpS (byG (DD k)) (byS (byG (DD k)) (dP (DD k) - 1)).1 i) ≤ 0 then rpS (byG (DD k)) (byS (byG (DD k)) (dP (DD k) - 1)).1 i else byG (DD k) i) from if_neg ne] at st
          rw [← nI_succ]
        · rw [z6 f0] at st
          rw [show (if lg_cmp (byG (DD k) i) 0 ≤ 0 then (0 : Int64) else byG (DD k) i) = byG (DD k) i from by
            split
            · rename_i d
              rw [cmp_le0, show (0 : Int64).toInt = 0 from rfl] at d
              exact Int64.toInt_inj.mp (by rw [show (0 : Int64).toInt = 0 from rfl]; omega)
            · rfl] at st
          exact st 1 _ _ (fun q => absurd q (by decide))
        · rw [if_pos c] at st
          exact st 1 _ _ (fun q => absurd q (by decide))
        · rw [if_neg c] at st
          exact st 1 _ _ (fun q => absurd q (by decide))
    have key : ∀ n i : Nat, i + 1 + n = dP (DD k) → ∀ (o5 o6 o7 o8 o9 : Option Value), A (38, [some (.ref 77), some (.int x1), some (.int x2), some (.int (nI (byS (byG (DD k)) i).1)), some (.int (nI (i + 1))), o5, o6, o7, o8, o9], [], h', 0, 0) := by
      intro n
      induction n with
      | zero =>
        intro i hi o5 o6 o7 o8 o9
        rw [show i = dP (DD k) - 1 by omega]
        refine vX10_buyer_38 hA ⟨s0, fun _ => key2 (dP (DD k)) 0 (by omega) 0 _ _ (fun _ => rfl), fun q => ?_⟩
        rw [e27] at q; exact absurd (nI_le (by omega) (by omega)) q
      | succ n ih =>
        intro i hi o5 o6 o7 o8 o9
        have st := ih (i + 1) (by omega)
        have bi := (by_inv (G := byG (DD k)) i (fun q hq => nn q (by omega))).1
        refine vX10_buyer_38 hA ⟨s0, fun q => ?_, fun q => ⟨s0, c_mwishOf (by omega) hm.1 (by omega) ⟨_, rfl, s0, gO (by omega) ⟨_, rfl, s0, c_mwishOf (by omega) hm.1 (by omega) ⟨_, rfl, s0, gO (by omega) ⟨_, rfl, fun c => ?_, fun c => ?_⟩⟩⟩⟩⟩⟩
        · rw [e27] at q; exact absurd q (nI_ge (by omega) (by omega))
        · rw [show byS (byG (DD k)) (i + 1) = ((byS (byG (DD k)) i).1, if byG (DD k) (i + 1) < (byS (byG (DD k)) i).2 then (byS (byG (DD k)) i).2 else byG (DD k) (i + 1)) from if_pos c] at st
          rw [← nI_succ]
          exact st _ _ _ _ _
        · rw [show byS (byG (DD k)) (i + 1) = (i + 1, byG (DD k) (byS (byG (DD k)) i).1) from if_neg c] at st
          rw [← nI_succ]
          exact st _ _ _ _ _
    exact key (dP (DD k) - 1) 0 (by omega) _ _ _ _ _
  · rw [if_pos q0] at hv; exact hv
theorem g_buyer (a : IV h S Im tp) (b : 103 ≤ h.1 ∧ h.1 ≤ B) (x1 x2 : Int32) : prI (mX9_buyer g) (mX10_buyer g) [.ref 0, .int x1, .int x2] [.ref 77, .int x1, .int x2] h (inv B) := pr_q _ a b (fun Ret k => q9_buyer (iv_tc a) k) (fun h1 Ret a1 k => q10_buyer (iv_tc a1) k)
end
