section
variable {g : ax_G} {Ret : Option Value → ax_H → Prop} {h : ax_H} {z : Nat → Nat} {DD : Nat → rD} {N : Nat → Nat → Nat} {C : Nat → Nat → Nat → Nat → Int32} {S : sT} {Im : Nat → Option sT} {tp : Nat → Nat} {B : Nat}
/-! SHIFT and RULING, of the class -/
def bL (b : Int) (x : Int64) : Prop := -b ≤ x.toInt ∧ x.toInt ≤ b
theorem bL_add {a b : Int} {x y : Int64} (h1 : bL a x) (h2 : bL b y) (h3 : a + b < 9223372036854775808) : bL (a + b) (x + y) := by
  unfold bL at *
  rw [i64_add (by omega) (by omega)]; omega
theorem bL_mono {a b : Int} {x : Int64} (h1 : bL a x) (h2 : a ≤ b) : bL b x := by unfold bL at *; omega
theorem abs_mul {a b x y : Int} (ha : 0 ≤ a) (hb : 0 ≤ b) (hx : -a ≤ x ∧ x ≤ a) (hy : -b ≤ y ∧ y ≤ b) : -(a * b) ≤ x * y ∧ x * y ≤ a * b := by
  have h1 : (x * y).natAbs ≤ (a * b).natAbs := by
    rw [Int.natAbs_mul, Int.natAbs_mul]
    exact Nat.mul_le_mul (by omega) (by omega)
  have h2 : 0 ≤ a * b := Int.mul_nonneg ha hb
  omega
theorem bL_mul {a b : Int} {x y : Int64} (ha : 0 ≤ a) (hb : 0 ≤ b) (h1 : bL a x) (h2 : bL b y) (h3 : a * b < 9223372036854775808) : bL (a * b) (x * y) := by
  have := abs_mul ha hb h1 h2
  unfold bL
  rw [i64_mul (by omega) (by omega)]; exact this
theorem bL_32 {b : Int} {x : Int32} (h1 : -b ≤ x.toInt ∧ x.toInt ≤ b) : bL b x.toInt64 := by unfold bL; rw [i_64]; exact h1
theorem we_bL {D : rD} (ok : rd_ok D) (x y : Int32) {P H : Nat} {vl : Nat → Nat → Int32} (hH : H ≤ 12) : bL 231928233984 (sp_we P H vl (sp_w D x) y) := sp_we_bd hH (fun q => sp_w_bd ok x q)
theorem t9_shift {x1 x2 x3 : Int32} (a : tc h z DD N C) (hq : ∀ (v : Int32) h', ax_same cl_F h h' → Ret (some (.int v)) h') : mX9_shift g [.ref 0, .int x1, .int x2, .int x3] h Ret := by
  refine uX9_shift (fun A hA => vX9_shift_0 hA ⟨a.1.1, q_begun a (fun q => Or.inr ⟨rfl, hq _ h sm_rf⟩) (fun k hk ex ok h' hs xs hc => Or.inl ⟨_, rfl, hc.1.1.1, c_hasPerson hc.1 ⟨_, rfl, fun _ => hq _ h' hs, fun _ => ⟨fun _ => hq _ h' hs, fun _ => ⟨fun _ => ?_, fun _ => hq _ h' hs⟩⟩⟩⟩)⟩)
  have H12 := ok.1.2
  have fin : ∀ v : Int32, Ret (some (.int v)) h' := fun v => hq v h' hs
  have od := hc.2.2
  have e5 := hc.1.2.2.1.1
  have key : ∀ m i : Nat, i + m = dH (DD k) → ∀ (x5 x6 : Int32) (x7 : Int64) (o10 o11 o12 o13 : Option Value), bL 1782 x7 → A (45, [some (.ref 0), some (.int x1), some (.int x2), some (.int x3), some (.ref (6 + 14 * k)), some (.int x5), some (.int x6), some (.long x7), none, some (.int (nI i)), o10, o11, o12, o13], [], h', 0, 0) := by
    intro m
    induction m with
    | zero =>
      intro i hi x5 x6 x7 o10 o11 o12 o13 b7
      have big : ∀ x, -9223372036854775808 < (sp_we (dP (DD k)) (dH (DD k)) (sp_vl (DD k)) (sp_w (DD k) (rul (DD k))) x + x7).toInt := fun x => by have := bL_add (we_bL ok (rul (DD k)) x H12 (P := dP (DD k)) (vl := sp_vl (DD k))) b7 (by decide); unfold bL at this; omega
      refine vX9_shift_45 hA ⟨hc.1.1.1, fun _ => ⟨fun _ => ⟨xs.1, _, xs.2.1.2.2.2.1, xs.1, _, xs.2.1.2.2.2.2.1, hc.2.1.1.1, c_weighed hc.2.1 od (Nat.le_refl _) ⟨_, rfl, xs.1, _, xs.2.1.2.2.2.2.1, od.1.1, fun _ => ?_, fun _ => ?_⟩⟩, fun _ => ⟨fun _ => fin _, fun _ => fin _⟩⟩, fun q => ?_⟩
      · rw [od.2.2.2.1]; exact c_side (big _) (t_pos ok) ⟨_, rfl, fin _⟩
      · rw [od.2.2.2.1]; exact c_side (big _) (t_pos ok) ⟨_, rfl, fin _⟩
      · rw [e5] at q; exact absurd (nI_le (by omega) (by omega)) q
    | succ m ih =>
      intro i hi x5 x6 x7 o10 o11 o12 o13 b7
      have inn : ∀ f j : Nat, j + f = dH (DD k) → ∀ (x5 x6 x10 : Int32) (x7 : Int64) (o12 o13 : Option Value), bL 1782 x7 → (-99 ≤ x10.toInt ∧ x10.toInt ≤ 99) → A (73, [some (.ref 0), some (.int x1), some (.int x2), some (.int x3), some (.ref (6 + 14 * k)), some (.int x5), some (.int x6), some (.long x7), none, some (.int (nI i)), some (.int x10), some (.int (nI j)), o12, o13], [], h', 0, 0) := by
        intro f
        induction f with
        | zero =>
          intro j hj x5 x6 x10 x7 o12 o13 b7 b10
          refine vX9_shift_73 hA ⟨hc.1.1.1, fun _ => ?_, fun q => ?_⟩
          · rw [← nI_succ]; exact ih (i + 1) (by omega) _ _ _ _ _ _ _ b7
          · rw [e5] at q; exact absurd (nI_le (by omega) (by omega)) q
        | succ f ihf =>
          intro j hj x5 x6 x10 x7 o12 o13 b7 b10
          refine vX9_shift_73 hA ⟨hc.1.1.1, fun q => ?_, fun _ => ⟨xs.1, _, xs.2.1.2.2.2.2.1, od.1.1, _, od.1.2.1, by rw [od.1.2.2], by rw [od.1.2.2]; exact vp_in_nI (by omega) (by decide), xs.1, _, xs.2.1.2.2.2.2.1, od.1.1, _, od.1.2.1, by rw [od.1.2.2], by rw [od.1.2.2]; exact vp_in_nI (by omega) (by decide), ?_⟩⟩
          · rw [e5] at q; exact absurd q (nI_ge (by omega) (by omega))
          · intro z29
            have bz : bL 18 z29 := by
              show bL 18 (ax_i h' 56 (nI j).toNatClampNeg - ax_i h' 56 (nI i).toNatClampNeg).toInt64
              rw [nI_clamp (by omega), nI_clamp (by omega), od.2.2.2.2 j (by omega), od.2.2.2.2 i (by omega)]
              have b1 := sp_w_bd ok (rul (DD k)) i
              have b2 := sp_w_bd ok (rul (DD k)) j
              refine bL_32 ?_
              rw [i32_sub (by omega) (by omega)]; omega
            have br : bL 1782 (x10.toInt64 * z29) := bL_mul (a := 99) (b := 18) (by decide) (by decide) (bL_32 b10) bz (by decide)
            refine ⟨hc.1.1.1, c_deedAt hc.1 ⟨_, rfl, fun _ => ?_, fun _ => ⟨fun _ => ?_, fun _ => ?_⟩⟩⟩
            · rw [← nI_succ]; exact ihf (j + 1) (by omega) _ _ _ _ _ _ b7 b10
            · rw [← nI_succ]; exact ihf (j + 1) (by omega) _ _ _ _ _ _ b7 b10
            · rw [← nI_succ]; exact ihf (j + 1) (by omega) _ _ _ _ _ _ br b10
      refine vX9_shift_45 hA ⟨hc.1.1.1, fun q => ?_, fun _ => ⟨hc.1.1.1, c_deedAt hc.1 ⟨_, rfl, hc.1.1.1, c_extraOf hc.1 ⟨_, rfl, inn (dH (DD k)) 0 (by omega) _ _ _ _ _ _ b7 (ex_bd ok _ _)⟩⟩⟩⟩
      rw [e5] at q; exact absurd q (nI_ge (by omega) (by omega))
  exact key (dH (DD k)) 0 (by omega) _ _ _ _ _ _ _ (by unfold bL; decide)
theorem c_changeBy {k : Nat} {D : rD} {x y : Int32} (ok : rd_ok D) (xs : xs_st h) (hc : hc_at h k D) (hq : ∀ v, bL 128304 v → Ret (some (.long v)) h) : mX9_changeBy g [.ref 0, .ref (6 + 14 * k), .int x, .int y] h Ret := by
  have H12 := ok.1.2
  have P6 := ok.2.1
  have od := hc.2.2
  refine uX9_changeBy (fun A hA => vX9_changeBy_0 hA ?_)
  have key : ∀ m i : Nat, i + m = dP D → ∀ (x4 : Int64) (o7 : Option Value), bL (108 * i) x4 → A (6, [some (.ref 0), some (.ref (6 + 14 * k)), some (.int x), some (.int y), some (.long x4), none, some (.int (nI i)), o7], [], h, 0, 0) := by
    intro m
    induction m with
    | zero =>
      intro i hi x4 o7 b4
      refine vX9_changeBy_6 hA ⟨hc.1.1.1, fun _ => ⟨hc.1.1.1, c_extraBy hc.1 ⟨_, rfl, hc.1.1.1, c_extraOf hc.1 ⟨_, rfl, hq _ ?_⟩⟩⟩, fun q => ?_⟩
      · have e1 := ex_bd ok x y
        have e2 := ex_bd ok x (sp_mo D x)
        exact bL_mul (a := 648) (b := 198) (by decide) (by decide) (bL_mono b4 (by omega)) (bL_32 (by unfold sp_ex; rw [i32_sub (by omega) (by omega)]; omega)) (by decide)
      · rw [hc.1.2.2.1.2] at q; exact absurd (nI_le (by omega) (by omega)) q
    | succ m ih =>
      intro i hi x4 o7 b4
      have inn : ∀ f j : Nat, j + f = dH D → ∀ x4 : Int64, bL (108 * i + 9 * j) x4 → A (18, [some (.ref 0), some (.ref (6 + 14 * k)), some (.int x), some (.int y), some (.long x4), none, some (.int (nI i)), some (.int (nI j))], [], h, 0, 0) := by
        intro f
        induction f with
        | zero =>
          intro j hj x4 b4
          refine vX9_changeBy_18 hA ⟨hc.1.1.1, fun _ => ?_, fun q => ?_⟩
          · rw [← nI_succ]; exact ih (i + 1) (by omega) _ _ (bL_mono b4 (by omega))
          · rw [hc.1.2.2.1.1] at q; exact absurd (nI_le (by omega) (by omega)) q
        | succ f ihf =>
          intro j hj x4 b4
          refine vX9_changeBy_18 hA ⟨hc.1.1.1, fun q => ?_, fun _ => ⟨hc.1.1.1, c_deedAt hc.1 ⟨_, rfl, fun _ => ?_, fun _ => ⟨xs.1, _, xs.2.1.2.2.2.2.1, od.1.1, _, od.1.2.1, by rw [od.1.2.2], by rw [od.1.2.2]; exact vp_in_nI (by omega) (by decide), ?_⟩⟩⟩⟩
          · rw [hc.1.2.2.1.1] at q; exact absurd q (nI_ge (by omega) (by omega))
          · rw [← nI_succ, Int64.add_zero]; exact ihf (j + 1) (by omega) _ (bL_mono b4 (by omega))
          · rw [nI_clamp (by omega), od.2.2.2.2 j (by omega), ← nI_succ]
            have bw := sp_w_bd ok (rul D) j
            exact ihf (j + 1) (by omega) _ (bL_mono (bL_add b4 (bL_32 (b := 9) (x := sp_w D (rul D) j) (by omega)) (by omega)) (by omega))
      refine vX9_changeBy_6 hA ⟨hc.1.1.1, fun q => ?_, fun _ => inn (dH D) 0 (by omega) _ (bL_mono b4 (by omega))⟩
      rw [hc.1.2.2.1.2] at q; exact absurd q (nI_ge (by omega) (by omega))
  exact key (dP D) 0 (by omega) _ _ (by unfold bL; decide)
theorem t9_ruling {x1 x2 : Int32} (a : tc h z DD N C) (hq : ∀ (v : Int32) h', ax_same cl_F h h' → Ret (some (.int v)) h') : mX9_ruling g [.ref 0, .int x1, .int x2] h Ret := by
  refine uX9_ruling (fun A hA => vX9_ruling_0 hA ⟨a.1.1, q_begun a (fun q => Or.inr ⟨rfl, hq _ h sm_rf⟩) (fun k hk ex ok h' hs xs hc => Or.inl ⟨_, rfl, fun _ => hq _ h' hs, fun _ => ⟨fun _ => ?_, fun _ => hq _ h' hs⟩⟩)⟩)
  have H12 := ok.1.2
  have P6 := ok.2.1
  have fin : ∀ v : Int32, Ret (some (.int v)) h' := fun v => hq v h' hs
  have od := hc.2.2
  have k2 : ∀ m i : Nat, i + m = 6 → ∀ (x6 x7 : Int32) (x4 x8 : Int64) (o11 o12 o13 : Option Value), bL 1391569403904 x4 → bL 1391569532208 x8 → A (82, [some (.ref 0), some (.int x1), some (.int x2), some (.ref (6 + 14 * k)), some (.long x4), none, some (.int x6), some (.int x7), some (.long x8), none, some (.int (nI i)), o11, o12, o13], [], h', 0, 0) := by
    intro m
    induction m with
    | zero =>
      intro i hi x6 x7 x4 x8 o11 o12 o13 b4 b8
      have big : -9223372036854775808 < x8.toInt := by unfold bL at b8; omega
      refine vX9_ruling_82 hA ⟨fun _ => ⟨fun _ => ⟨xs.1, _, xs.2.1.2.2.2.2.1, od.1.1, fun _ => ?_, fun _ => ?_⟩, fun _ => ⟨fun _ => fin _, fun _ => fin _⟩⟩, fun q => absurd (nI_le (a := 6) (b := i) (by omega) (by omega)) q⟩
      · rw [od.2.2.2.1]; exact c_side big (t_pos ok) ⟨_, rfl, fin _⟩
      · rw [od.2.2.2.1]; exact c_side big (t_pos ok) ⟨_, rfl, fin _⟩
    | succ m ih =>
      intro i hi x6 x7 x4 x8 o11 o12 o13 b4 b8
      have inn : ∀ f j : Nat, j + f = 3 → ∀ (x6 x7 : Int32) (x8 : Int64) (o12 o13 : Option Value), bL 1391569532208 x8 → A (92, [some (.ref 0), some (.int x1), some (.int x2), some (.ref (6 + 14 * k)), some (.long x4), none, some (.int x6), some (.int x7), some (.long x8), none, some (.int (nI i)), some (.int (nI j)), o12, o13], [], h', 0, 0) := by
        intro f
        induction f with
        | zero =>
          intro j hj x6 x7 x8 o12 o13 b8
          refine vX9_ruling_92 hA ⟨fun _ => ?_, fun q => absurd (nI_le (a := 3) (b := j) (by omega) (by omega)) q⟩
          rw [← nI_succ]; exact ih (i + 1) (by omega) _ _ _ _ _ _ _ b4 b8
        | succ f ihf =>
          intro j hj x6 x7 x8 o12 o13 b8
          refine vX9_ruling_92 hA ⟨fun q => absurd q (nI_ge (a := j) (b := 3) (by omega) (by decide)), fun _ => ⟨xs.1, c_changeBy ok xs hc (fun v bv => ⟨_, rfl, fun _ => ?_, fun _ => ?_⟩)⟩⟩
          · rw [← nI_succ]; exact ihf (j + 1) (by omega) _ _ _ _ _ b8
          · rw [← nI_succ]; exact ihf (j + 1) (by omega) _ _ _ _ _ (bL_mono (bL_add b4 bv (by decide)) (by decide))
      exact vX9_ruling_82 hA ⟨fun q => absurd q (nI_ge (a := i) (b := 6) (by omega) (by decide)), fun _ => inn 3 0 (by decide) _ _ _ _ _ b8⟩
  have k1 : ∀ m i : Nat, i + m = dP (DD k) → ∀ (x4 : Int64) (o7 o8 o9 o10 o11 o12 o13 : Option Value), bL (231928233984 * i) x4 → A (28, [some (.ref 0), some (.int x1), some (.int x2), some (.ref (6 + 14 * k)), some (.long x4), none, some (.int (nI i)), o7, o8, o9, o10, o11, o12, o13], [], h', 0, 0) := by
    intro m
    induction m with
    | zero =>
      intro i hi x4 o7 o8 o9 o10 o11 o12 o13 b4
      have b6 : bL 1391569403904 x4 := bL_mono b4 (by omega)
      refine vX9_ruling_28 hA ⟨hc.1.1.1, fun _ => ⟨xs.1, c_changeBy ok xs hc (fun v bv => ⟨_, rfl, k2 6 0 (by decide) _ _ _ _ _ _ _ b6 (bL_mono (bL_add b6 bv (by decide)) (by decide))⟩)⟩, fun q => ?_⟩
      rw [hc.1.2.2.1.2] at q; exact absurd (nI_le (by omega) (by omega)) q
    | succ m ih =>
      intro i hi x4 o7 o8 o9 o10 o11 o12 o13 b4
      refine vX9_ruling_28 hA ⟨hc.1.1.1, fun q => ?_, fun _ => ⟨xs.1, _, xs.2.1.2.2.2.1, xs.1, _, xs.2.1.2.2.2.2.1, hc.2.1.1.1, c_weighed hc.2.1 od (Nat.le_refl _) ⟨_, rfl, ?_⟩⟩⟩
      · rw [hc.1.2.2.1.2] at q; exact absurd q (nI_ge (by omega) (by omega))
      · rw [← nI_succ]
        exact ih (i + 1) (by omega) _ _ _ _ _ _ _ _ (bL_mono (bL_add b4 (we_bL ok (rul (DD k)) (nI i) H12) (by omega)) (by omega))
  exact k1 (dP (DD k)) 0 (by omega) _ _ _ _ _ _ _ _ (by unfold bL; decide)
end
