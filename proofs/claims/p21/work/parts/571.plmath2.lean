section
section
variable {n H : Nat} {may : Nat → Nat → Bool} {Sx : Nat → Nat → Int}
/-- hour by hour: the best of the errands of s in the hours before -/
def ccn (may : Nat → Nat → Bool) (Sx : Nat → Nat → Int) (q s : Nat) (R : Nat → Option Int) (i : Nat) : Option Int := if s.testBit i && may i q then oadd (R (s ^^^ 2 ^ i)) (Sx i q) else none
def cfl (a : Option Int) (c : Nat → Option Int) : Nat → Option Int
  | 0 => a
  | i + 1 => omax (cfl a c i) (c i)
def cB (n : Nat) (may : Nat → Nat → Bool) (Sx : Nat → Nat → Int) : Nat → Nat → Option Int
  | 0, s => if s = 0 then some 0 else none
  | q + 1, s => cfl (cB n may Sx q s) (ccn may Sx q s (cB n may Sx q)) n
theorem cfl_none {a : Option Int} {c : Nat → Option Int} : ∀ {m : Nat}, cfl a c m = none → a = none ∧ ∀ i, i < m → c i = none
  | 0, e => ⟨e, fun i hi => absurd hi (Nat.not_lt_zero _)⟩
  | m + 1, e => by
    have e' : omax (cfl a c m) (c m) = none := e
    obtain ⟨e1, e2⟩ := omax_none.mp e'
    obtain ⟨h1, h2⟩ := cfl_none e1
    refine ⟨h1, fun i hi => ?_⟩
    by_cases q : i = m
    · rw [q]; exact e2
    · exact h2 i (by omega)
theorem cfl_some {a : Option Int} {c : Nat → Option Int} : ∀ {m : Nat} {v : Int}, cfl a c m = some v → (∀ x, a = some x → x ≤ v) ∧ (∀ i x, i < m → c i = some x → x ≤ v) ∧ (a = some v ∨ ∃ i, i < m ∧ c i = some v)
  | 0, v, e => by
    have e' : a = some v := e
    exact ⟨fun x q => (by rw [e'] at q; cases q; exact Int.le_refl _), fun i x hi => absurd hi (Nat.not_lt_zero _), Or.inl e'⟩
  | m + 1, v, e => by
    have e' : omax (cfl a c m) (c m) = some v := e
    obtain ⟨a1, a2, a3⟩ := omax_le e'
    have low : ∀ w, cfl a c m = some w → w ≤ v := a1
    refine ⟨fun x q => ?_, fun i x hi ex => ?_, ?_⟩
    · cases ec : cfl a c m with
      | none => have := (cfl_none ec).1; rw [this] at q; cases q
      | some w => have := (cfl_some ec).1 x q; have := low w ec; omega
    · by_cases q : i = m
      · rw [q] at ex; exact a2 x ex
      · cases ec : cfl a c m with
        | none => have := (cfl_none ec).2 i (by omega); rw [this] at ex; cases ex
        | some w => have := (cfl_some ec).2.1 i x (by omega) ex; have := low w ec; omega
    · rcases a3 with a3 | a3
      · rcases (cfl_some a3).2.2 with q | ⟨i, hi, ei⟩
        · exact Or.inl q
        · exact Or.inr ⟨i, by omega, ei⟩
      · exact Or.inr ⟨m, by omega, a3⟩
theorem ccn_some {q s i : Nat} {R : Nat → Option Int} {v : Int} (e : ccn may Sx q s R i = some v) : s.testBit i = true ∧ may i q = true ∧ ∃ r, R (s ^^^ 2 ^ i) = some r ∧ r + Sx i q = v := by
  unfold ccn at e
  by_cases c : (s.testBit i && may i q) = true
  · rw [if_pos c] at e
    rw [Bool.and_eq_true] at c
    refine ⟨c.1, c.2, ?_⟩
    cases er : R (s ^^^ 2 ^ i) with
    | none => rw [er] at e; cases e
    | some r => rw [er] at e; exact ⟨r, rfl, by cases e; rfl⟩
  · rw [if_neg c] at e; cases e
theorem ccn_mk {q s i : Nat} {R : Nat → Option Int} {r : Int} (h1 : s.testBit i = true) (h2 : may i q = true) (h3 : R (s ^^^ 2 ^ i) = some r) : ccn may Sx q s R i = some (r + Sx i q) := by
  unfold ccn
  rw [if_pos (by rw [h1, h2]; rfl), h3]; rfl
/-- a choice for the errands of s, in the hours before q -/
def vC (n : Nat) (may : Nat → Nat → Bool) (q s : Nat) (f : Nat → Nat) : Prop := ∀ i, i < n → s.testBit i = true → may i (f i) = true ∧ f i < q ∧ ∀ j, j < n → s.testBit j = true → f i = f j → i = j
def pCt (Sx : Nat → Nat → Int) (s : Nat) (f : Nat → Nat) (i : Nat) : Int := if s.testBit i = true then Sx i (f i) else 0
theorem xb_self {s i : Nat} (h : s.testBit i = true) : (s ^^^ 2 ^ i).testBit i = false := by
  rw [Nat.testBit_xor, h, Nat.testBit_two_pow_self]; rfl
theorem xb_ne {s i j : Nat} (h : j ≠ i) : (s ^^^ 2 ^ i).testBit j = s.testBit j := by
  rw [Nat.testBit_xor, Nat.testBit_two_pow_of_ne (fun e => h e.symm), Bool.xor_false]
theorem s_bit {s : Nat} (hn : n ≤ 6) (hs : s < 2 ^ n) (h0 : s ≠ 0) : ∃ i, i < n ∧ s.testBit i = true := by
  have p : 2 ^ n ≤ 2 ^ 6 := Nat.pow_le_pow_right (by decide) hn
  have k : ∀ s, s < 64 → s ≠ 0 → ∃ i, i < 6 ∧ s.testBit i = true := by decide
  obtain ⟨i, hi, ei⟩ := k s (by omega) h0
  refine ⟨i, Nat.lt_of_not_le (fun le => ?_), ei⟩
  rw [Nat.testBit_lt_two_pow (Nat.lt_of_lt_of_le hs (Nat.pow_le_pow_right (by decide) le))] at ei
  cases ei
theorem pC_add {s i : Nat} {f k : Nat → Nat} (hi : i < n) (b : s.testBit i = true) (e : ∀ j, j < n → j ≠ i → k j = f j) : sumI (pCt Sx s k) n = sumI (pCt Sx (s ^^^ 2 ^ i) f) n + Sx i (k i) := by
  have h1 : pCt Sx s k i = Sx i (k i) := by unfold pCt; rw [if_pos b]
  have h2 : pCt Sx (s ^^^ 2 ^ i) f i = 0 := by unfold pCt; rw [xb_self b, if_neg (by decide)]
  rw [sumI_u1 (f := pCt Sx (s ^^^ 2 ^ i) f) (k := pCt Sx s k) (a := i) n (fun q hq ne => by unfold pCt; rw [xb_ne ne, e q hq ne]) hi, h1, h2, Int.sub_zero]
theorem vC_less {q s i : Nat} {f : Nat → Nat} (V : vC n may (q + 1) s f) (hi : i < n) (b : s.testBit i = true) (e : f i = q) : vC n may q (s ^^^ 2 ^ i) f := fun j hj bj => by
  have ne : j ≠ i := fun e2 => by rw [e2, xb_self b] at bj; cases bj
  rw [xb_ne ne] at bj
  obtain ⟨v1, v2, v3⟩ := V j hj bj
  have nq : f j ≠ q := fun e3 => ne (v3 i hi b (by rw [e3, e]))
  refine ⟨v1, by omega, fun j2 hj2 bj2 e4 => ?_⟩
  have ne2 : j2 ≠ i := fun e5 => by rw [e5, xb_self b] at bj2; cases bj2
  rw [xb_ne ne2] at bj2
  exact v3 j2 hj2 bj2 e4
theorem cB_ok (hn : n ≤ 6) : ∀ q s, s < 2 ^ n → (cB n may Sx q s = none → ∀ f, ¬ vC n may q s f) ∧ ∀ v, cB n may Sx q s = some v → (∃ f, vC n may q s f ∧ sumI (pCt Sx s f) n = v) ∧ ∀ f, vC n may q s f → sumI (pCt Sx s f) n ≤ v
  | 0, s, hs => by
    by_cases s0 : s = 0
    · have e : cB n may Sx 0 s = some 0 := by show (if s = 0 then some 0 else none) = _; rw [if_pos s0]
      have z : ∀ f, sumI (pCt Sx s f) n = 0 := fun f => by
        have k : ∀ m, sumI (pCt Sx s f) m = 0 := fun m => by
          induction m with
          | zero => rfl
          | succ m ih => show sumI (pCt Sx s f) m + pCt Sx s f m = 0; rw [ih]; unfold pCt; rw [s0, Nat.zero_testBit, if_neg (by decide)]; rfl
        exact k n
      refine ⟨fun e2 => (by rw [e] at e2; cases e2), fun v e2 => ?_⟩
      rw [e] at e2; cases e2
      exact ⟨⟨fun _ => 0, fun i hi b => (by rw [s0, Nat.zero_testBit] at b; cases b), z _⟩, fun f _ => by rw [z f]; exact Int.le_refl _⟩
    · have e : cB n may Sx 0 s = none := by show (if s = 0 then some 0 else none) = _; rw [if_neg s0]
      refine ⟨fun _ f V => ?_, fun v e2 => (by rw [e] at e2; cases e2)⟩
      obtain ⟨i, hi, b⟩ := s_bit hn hs s0
      exact absurd (V i hi b).2.1 (Nat.not_lt_zero _)
  | q + 1, s, hs => by
    have xl : ∀ i, i < n → s ^^^ 2 ^ i < 2 ^ n := fun i hi => Nat.xor_lt_two_pow hs (Nat.pow_lt_pow_right (by decide) hi)
    have split : ∀ f, vC n may (q + 1) s f → vC n may q s f ∨ ∃ i, i < n ∧ s.testBit i = true ∧ f i = q := fun f V => by
      by_cases c : ∃ i, i < n ∧ s.testBit i = true ∧ f i = q
      · exact Or.inr c
      · exact Or.inl (fun i hi b => ⟨(V i hi b).1, by have h1 := (V i hi b).2.1; have h2 : f i ≠ q := fun e => c ⟨i, hi, b, e⟩; omega, (V i hi b).2.2⟩)
    refine ⟨fun e f V => ?_, fun v e => ?_⟩
    · obtain ⟨e1, e2⟩ := cfl_none (m := n) e
      rcases split f V with V2 | ⟨i, hi, b, ef⟩
      · exact (cB_ok hn q s hs).1 e1 f V2
      · cases er : cB n may Sx q (s ^^^ 2 ^ i) with
        | none => exact (cB_ok hn q _ (xl i hi)).1 er f (vC_less V hi b ef)
        | some r =>
          have m1 := (V i hi b).1
          rw [ef] at m1
          have := e2 i hi
          rw [ccn_mk b m1 er] at this
          cases this
    · obtain ⟨c1, c2, c3⟩ := cfl_some (m := n) e
      refine ⟨?_, fun f V => ?_⟩
      · rcases c3 with c3 | ⟨i, hi, ei⟩
        · obtain ⟨f, V, ef⟩ := ((cB_ok hn q s hs).2 v c3).1
          exact ⟨f, fun i hi b => ⟨(V i hi b).1, by have := (V i hi b).2.1; omega, (V i hi b).2.2⟩, ef⟩
        · obtain ⟨b, m1, r, er, e2⟩ := ccn_some ei
          obtain ⟨f, V, ef⟩ := ((cB_ok hn q _ (xl i hi)).2 r er).1
          refine ⟨fun j => if j = i then q else f j, fun j hj bj => ?_, ?_⟩
          · by_cases ej : j = i
            · subst ej
              refine ⟨by show may j (if j = j then q else f j) = true; rw [if_pos rfl]; exact m1, by show (if j = j then q else f j) < q + 1; rw [if_pos rfl]; omega, fun j2 hj2 b2 e3 => ?_⟩
              by_cases e4 : j2 = j
              · exact e4.symm
              · have e5 : (if j = j then q else f j) = (if j2 = j then q else f j2) := e3
                rw [if_pos rfl, if_neg e4] at e5
                have := (V j2 hj2 (by rw [xb_ne e4]; exact b2)).2.1
                omega
            · obtain ⟨v1, v2, v3⟩ := V j hj (by rw [xb_ne ej]; exact bj)
              refine ⟨by show may j (if j = i then q else f j) = true; rw [if_neg ej]; exact v1, by show (if j = i then q else f j) < q + 1; rw [if_neg ej]; omega, fun j2 hj2 b2 e3 => ?_⟩
              have e5 : (if j = i then q else f j) = (if j2 = i then q else f j2) := e3
              rw [if_neg ej] at e5
              by_cases e4 : j2 = i
              · rw [if_pos e4] at e5; omega
              · rw [if_neg e4] at e5
                exact v3 j2 hj2 (by rw [xb_ne e4]; exact b2) e5
          · rw [pC_add (f := f) (k := fun j => if j = i then q else f j) hi b (fun j _ ne => if_neg ne), ef, if_pos rfl, e2]
      · rcases split f V with V2 | ⟨i, hi, b, ef⟩
        · cases ec : cB n may Sx q s with
          | none => exact absurd V2 ((cB_ok hn q s hs).1 ec f)
          | some w =>
            have h1 := ((cB_ok hn q s hs).2 w ec).2 f V2
            have h2 := c1 w ec
            omega
        · cases er : cB n may Sx q (s ^^^ 2 ^ i) with
          | none => exact absurd (vC_less V hi b ef) ((cB_ok hn q _ (xl i hi)).1 er f)
          | some r =>
            have m1 := (V i hi b).1
            rw [ef] at m1
            have h1 := ((cB_ok hn q _ (xl i hi)).2 r er).2 f (vC_less V hi b ef)
            have h2 := c2 i _ hi (ccn_mk b m1 er)
            rw [pC_add (f := f) (k := f) hi b (fun _ _ _ => rfl), ef]
            omega
theorem ob {m q j : Nat} : (m ||| 2 ^ q).testBit j = false ↔ m.testBit j = false ∧ j ≠ q := by
  rw [Nat.testBit_or, Nat.testBit_two_pow]
  by_cases e : q = j
  · subst e; simp
  · rw [decide_eq_false e, Bool.or_false]
    exact ⟨fun h => ⟨h, fun e2 => e e2.symm⟩, fun h => h.1⟩
theorem vR_iff {f : Nat → Nat} : ∀ d m, d ≤ n → (vR n H may d m f ↔ ∀ i, n - d ≤ i → i < n → may i (f i) = true ∧ f i < H ∧ m.testBit (f i) = false ∧ ∀ j, n - d ≤ j → j < n → f i = f j → i = j)
  | 0, m, _ => ⟨fun _ i h1 h2 => by omega, fun _ => trivial⟩
  | d + 1, m, hd => by
    have ih := vR_iff (f := f) d (m ||| 2 ^ f (n - (d + 1))) (by omega)
    constructor
    · intro ⟨v1, v2, v3, v4⟩ i h1 h2
      have A := ih.mp v4
      by_cases e : i = n - (d + 1)
      · rw [e]
        refine ⟨v2, v1, v3, fun j j1 j2 ej => ?_⟩
        by_cases e2 : j = n - (d + 1)
        · exact e2.symm
        · exact absurd ej.symm (ob.mp (A j (by omega) j2).2.2.1).2
      · obtain ⟨a1, a2, a3, a4⟩ := A i (by omega) h2
        refine ⟨a1, a2, (ob.mp a3).1, fun j j1 j2 ej => ?_⟩
        by_cases e2 : j = n - (d + 1)
        · rw [e2] at ej; exact absurd ej (ob.mp a3).2
        · exact a4 j (by omega) j2 ej
    · intro A
      obtain ⟨b1, b2, b3, b4⟩ := A (n - (d + 1)) (by omega) (by omega)
      refine ⟨b2, b1, b3, ih.mpr (fun i h1 h2 => ?_)⟩
      obtain ⟨a1, a2, a3, a4⟩ := A i (by omega) h2
      refine ⟨a1, a2, ob.mpr ⟨a3, fun e => ?_⟩, fun j j1 j2 ej => a4 j (by omega) j2 ej⟩
      have := a4 (n - (d + 1)) (by omega) (by omega) e
      omega
theorem vRC {f : Nat → Nat} : vR n H may n 0 f ↔ vC n may H (2 ^ n - 1) f := by
  have b : ∀ i, i < n → (2 ^ n - 1).testBit i = true := fun i hi => by rw [Nat.testBit_two_pow_sub_one]; exact decide_eq_true hi
  rw [vR_iff n 0 (Nat.le_refl _)]
  constructor
  · intro A i hi _
    obtain ⟨a1, a2, a3, a4⟩ := A i (by omega) hi
    exact ⟨a1, a2, fun j hj _ e => a4 j (by omega) hj e⟩
  · intro A i _ hi
    obtain ⟨a1, a2, a4⟩ := A i hi (b i hi)
    exact ⟨a1, a2, Nat.zero_testBit _, fun j _ hj e => a4 j hj (b j hj) e⟩
theorem sR_sum {f : Nat → Nat} : ∀ d, d ≤ n → sumI (fun i => Sx i (f i)) (n - d) + sR n Sx d f = sumI (fun i => Sx i (f i)) n
  | 0, _ => Int.add_zero _
  | d + 1, hd => by
    have ih := sR_sum (f := f) d (by omega)
    rw [show n - d = n - (d + 1) + 1 by omega] at ih
    have e : sumI (fun i => Sx i (f i)) (n - (d + 1) + 1) = sumI (fun i => Sx i (f i)) (n - (d + 1)) + Sx (n - (d + 1)) (f (n - (d + 1))) := rfl
    have e2 : sR n Sx (d + 1) f = Sx (n - (d + 1)) (f (n - (d + 1))) + sR n Sx d f := rfl
    omega
theorem sR_all {f : Nat → Nat} : sR n Sx n f = sumI (fun i => Sx i (f i)) n := by
  have := sR_sum (Sx := Sx) (f := f) n (Nat.le_refl _)
  rw [Nat.sub_self] at this
  rw [← this]
  exact (Int.zero_add _).symm
theorem pC_all {f : Nat → Nat} : sumI (pCt Sx (2 ^ n - 1) f) n = sR n Sx n f := by
  rw [sR_all]
  refine sumI_congr (fun i hi => ?_)
  unfold pCt
  rw [Nat.testBit_two_pow_sub_one, if_pos (decide_eq_true hi)]
end
section
variable {n H : Nat} {may : Nat → Nat → Bool} {sc : Nat → Nat → Int}
/-- both roads lead to the same -/
theorem cB_none (hn : n ≤ 6) (e : rBx n H may sc n 0 = none) : cB n may (pk sc) H (2 ^ n - 1) = none := by
  have p : 1 ≤ 2 ^ n := Nat.one_le_two_pow
  cases ec : cB n may (pk sc) H (2 ^ n - 1) with
  | none => rfl
  | some w =>
    obtain ⟨f, V, -⟩ := ((cB_ok hn H (2 ^ n - 1) (by omega)).2 w ec).1
    exact absurd (vRC.mpr V) (rB_none n 0 e f)
theorem cB_some (hn : n ≤ 6) (hH : H ≤ 12) {v : Int} (e : rBx n H may sc n 0 = some v) : cB n may (pk sc) H (2 ^ n - 1) = some (v * 16777216 - gr n H may sc n 0) := by
  have p : 1 ≤ 2 ^ n := Nat.one_le_two_pow
  obtain ⟨g1, g2, g3⟩ := gf_at n 0 (Nat.le_refl _) v e
  cases ec : cB n may (pk sc) H (2 ^ n - 1) with
  | none => exact absurd (vRC.mp g1) ((cB_ok hn H (2 ^ n - 1) (by omega)).1 ec _)
  | some w =>
    obtain ⟨⟨f, V, ef⟩, le⟩ := (cB_ok hn H (2 ^ n - 1) (by omega)).2 w ec
    have h1 := le _ (vRC.mp g1)
    rw [pC_all, g3] at h1
    have h2 := rB_pk hn hH n 0 (Nat.le_refl _) v e f (vRC.mpr V)
    rw [pC_all] at ef
    rw [show w = v * 16777216 - gr n H may sc n 0 by omega]
theorem sR_pk {f : Nat → Nat} : ∀ d, sR n (pk sc) d f = sR n sc d f * 16777216 - sR n (fun i q => (q : Int) * 16 ^ (5 - i)) d f
  | 0 => rfl
  | d + 1 => by
    have ih := sR_pk (f := f) d
    show sc (n - (d + 1)) (f (n - (d + 1))) * 16777216 - (f (n - (d + 1)) : Int) * 16 ^ (5 - (n - (d + 1))) + sR n (pk sc) d f = (sc (n - (d + 1)) (f (n - (d + 1))) + sR n sc d f) * 16777216 - ((f (n - (d + 1)) : Int) * 16 ^ (5 - (n - (d + 1))) + sR n (fun i q => (q : Int) * 16 ^ (5 - i)) d f)
    omega
/-- the row's digits are the first best choice -/
theorem gr_sum {v : Int} (e : rBx n H may sc n 0 = some v) : gr n H may sc n 0 = sumI (fun i => (gf n H may sc n 0 i : Int) * 16 ^ (5 - i)) n := by
  obtain ⟨g1, g2, g3⟩ := gf_at n 0 (Nat.le_refl _) v e
  have h := sR_pk (n := n) (sc := sc) (f := gf n H may sc n 0) n
  rw [g2, g3, sR_all (Sx := fun i q => (q : Int) * 16 ^ (5 - i))] at h
  omega
theorem sum_pad {F : Nat → Int} {n : Nat} : ∀ k, sumI (fun i => if i < n then F i else 0) (n + k) = sumI F n
  | 0 => sumI_congr (fun i hi => if_pos hi)
  | k + 1 => by
    show sumI (fun i => if i < n then F i else 0) (n + k) + (if n + k < n then F (n + k) else 0) = _
    rw [sum_pad k, if_neg (by omega), Int.add_zero]
def dig (n : Nat) (f : Nat → Nat) (i : Nat) : Int := if i < n then (f i : Int) else 0
theorem dig_row {f : Nat → Nat} (hn : n ≤ 6) : sumI (fun i => (f i : Int) * 16 ^ (5 - i)) n = dig n f 0 * 1048576 + dig n f 1 * 65536 + dig n f 2 * 4096 + dig n f 3 * 256 + dig n f 4 * 16 + dig n f 5 := by
  have e := sum_pad (F := fun i => (f i : Int) * 16 ^ (5 - i)) (n := n) (6 - n)
  rw [show n + (6 - n) = 6 by omega] at e
  rw [← e]
  have d : ∀ i : Nat, (if i < n then (f i : Int) * 16 ^ (5 - i) else 0) = dig n f i * 16 ^ (5 - i) := fun i => by
    unfold dig
    split
    · rfl
    · rw [Int.zero_mul]
  show 0 + (if 0 < n then (f 0 : Int) * 16 ^ (5 - 0) else 0) + (if 1 < n then (f 1 : Int) * 16 ^ (5 - 1) else 0) + (if 2 < n then (f 2 : Int) * 16 ^ (5 - 2) else 0) + (if 3 < n then (f 3 : Int) * 16 ^ (5 - 3) else 0) + (if 4 < n then (f 4 : Int) * 16 ^ (5 - 4) else 0) + (if 5 < n then (f 5 : Int) * 16 ^ (5 - 5) else 0) = _
  rw [d 0, d 1, d 2, d 3, d 4, d 5]
  rw [show (16 : Int) ^ (5 - 0) = 1048576 from by decide, show (16 : Int) ^ (5 - 1) = 65536 from by decide, show (16 : Int) ^ (5 - 2) = 4096 from by decide, show (16 : Int) ^ (5 - 3) = 256 from by decide, show (16 : Int) ^ (5 - 4) = 16 from by decide, show (16 : Int) ^ (5 - 5) = 1 from by decide, Int.mul_one, Int.zero_add]
theorem dig_at {f : Nat → Nat} (hn : n ≤ 6) (hf : ∀ i, i < n → f i < 16) : ∀ i, i < 6 → sumI (fun i => (f i : Int) * 16 ^ (5 - i)) n / 16 ^ (5 - i) % 16 = dig n f i := by
  have b : ∀ i, 0 ≤ dig n f i ∧ dig n f i ≤ 15 := fun i => by
    unfold dig
    split
    · rename_i h; have := hf i h; omega
    · omega
  have b0 := b 0
  have b1 := b 1
  have b2 := b 2
  have b3 := b 3
  have b4 := b 4
  have b5 := b 5
  rw [dig_row hn]
  intro i hi
  rcases (by omega : i = 0 ∨ i = 1 ∨ i = 2 ∨ i = 3 ∨ i = 4 ∨ i = 5) with rfl | rfl | rfl | rfl | rfl | rfl
  · rw [show (16 : Int) ^ (5 - 0) = 1048576 from by decide]; omega
  · rw [show (16 : Int) ^ (5 - 1) = 65536 from by decide]; omega
  · rw [show (16 : Int) ^ (5 - 2) = 4096 from by decide]; omega
  · rw [show (16 : Int) ^ (5 - 3) = 256 from by decide]; omega
  · rw [show (16 : Int) ^ (5 - 4) = 16 from by decide]; omega
  · rw [show (16 : Int) ^ (5 - 5) = 1 from by decide]; omega
/-- all scores times T -/
def osm (T : Int) : Option Int → Option Int
  | none => none
  | some x => some (T * x)
theorem osm_max {T : Int} (hT : 0 < T) (a b : Option Int) : omax (osm T a) (osm T b) = osm T (omax a b) := by
  cases a with
  | none => rfl
  | some x => cases b with
    | none => rfl
    | some y =>
      show some (if T * x < T * y then T * y else T * x) = some (T * (if x < y then y else x))
      by_cases q : x < y
      · rw [if_pos q, if_pos (Int.mul_lt_mul_of_pos_left q hT)]
      · rw [if_neg q, if_neg (fun w => q (Int.lt_of_mul_lt_mul_left w (Int.le_of_lt hT)))]
theorem fld_osm {T : Int} (hT : 0 < T) {c k : Nat → Option Int} : ∀ {m : Nat}, (∀ q, q < m → k q = osm T (c q)) → fldO k m = osm T (fldO c m)
  | 0, _ => rfl
  | m + 1, h => by
    show omax (fldO k m) (k m) = osm T (omax (fldO c m) (c m))
    rw [fld_osm hT (fun q hq => h q (by omega)), h m (by omega), osm_max hT]
theorem fld_congr {c k : Nat → Option Int} : ∀ {m : Nat}, (∀ q, q < m → c q = k q) → fldO c m = fldO k m
  | 0, _ => rfl
  | m + 1, h => by
    show omax (fldO c m) (c m) = omax (fldO k m) (k m)
    rw [fld_congr (fun q hq => h q (by omega)), h m (by omega)]
theorem rB_osm {T : Int} (hT : 0 < T) {sc' : Nat → Nat → Int} : ∀ d m, d ≤ n → (∀ i q, i < n → q < H → sc' i q = T * sc i q) → rBx n H may sc' d m = osm T (rBx n H may sc d m)
  | 0, m, _, _ => by show some (0 : Int) = some (T * 0); rw [Int.mul_zero]
  | d + 1, m, hd, e => by
    refine fld_osm hT (fun q hq => ?_)
    unfold rcn
    split
    · rw [rB_osm hT d _ (by omega) e, e _ q (by omega) hq]
      cases rBx n H may sc d (m ||| 2 ^ q) with
      | none => rfl
      | some r => show some (T * r + T * _) = some (T * (r + _)); rw [Int.mul_add]
    · rfl
theorem rB_congr {may' : Nat → Nat → Bool} {sc' : Nat → Nat → Int} : ∀ d m, d ≤ n → (∀ i q, i < n → q < H → may' i q = may i q) → (∀ i q, i < n → q < H → sc' i q = sc i q) → rBx n H may' sc' d m = rBx n H may sc d m
  | 0, m, _, _, _ => rfl
  | d + 1, m, hd, e1, e => by
    refine fld_congr (fun q hq => ?_)
    unfold rcn
    rw [e1 _ q (by omega) hq, e _ q (by omega) hq, rB_congr d _ (by omega) e1 e]
/-- whether there is a choice does not hang on the scores -/
theorem rB_has {sc' : Nat → Nat → Int} {v : Int} (e : rBx n H may sc n 0 = some v) : ∃ v', rBx n H may sc' n 0 = some v' := by
  cases e' : rBx n H may sc' n 0 with
  | none => exact absurd (gf_at n 0 (Nat.le_refl _) v e).1 (rB_none n 0 e' _)
  | some v' => exact ⟨v', rfl⟩
/-- bounds -/
theorem rB_bd {b : Int} (hb : 0 ≤ b) : ∀ d m, d ≤ n → (∀ i q, i < n → q < H → -b ≤ sc i q ∧ sc i q ≤ b) → ∀ v, rBx n H may sc d m = some v → -(b * d) ≤ v ∧ v ≤ b * d
  | 0, m, _, _, v, e => by cases e; omega
  | d + 1, m, hd, hs, v, e => by
    obtain ⟨q, hq, eq⟩ := (fld_some e).2
    obtain ⟨-, -, r, er, e2⟩ := rcn_some eq
    have h1 := rB_bd hb d _ (by omega) hs r er
    have h2 := hs (n - (d + 1)) q (by omega) hq
    rw [show b * ((d + 1 : Nat) : Int) = b * (d : Int) + b from by rw [Int.natCast_add, Int.natCast_one, Int.mul_add, Int.mul_one]]
    omega
end
end
