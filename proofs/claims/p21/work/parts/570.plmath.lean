section
/-! the best choice of hours: the reference's road (errand by errand) and the class's (hour by hour) -/
def omax : Option Int → Option Int → Option Int
  | none, b => b
  | some x, none => some x
  | some x, some y => some (if x < y then y else x)
def fldO (c : Nat → Option Int) : Nat → Option Int
  | 0 => none
  | q + 1 => omax (fldO c q) (c q)
def oadd (a : Option Int) (s : Int) : Option Int := match a with
  | none => none
  | some x => some (x + s)
theorem omax_le {a b : Option Int} {v : Int} (e : omax a b = some v) : (∀ x, a = some x → x ≤ v) ∧ (∀ y, b = some y → y ≤ v) ∧ (a = some v ∨ b = some v) := by
  cases a with
  | none => cases b with
    | none => cases e
    | some y =>
      cases e
      exact ⟨fun x q => (by cases q), fun y q => (by cases q; exact Int.le_refl _), Or.inr rfl⟩
  | some x => cases b with
    | none =>
      cases e
      exact ⟨fun x q => (by cases q; exact Int.le_refl _), fun y q => (by cases q), Or.inl rfl⟩
    | some y =>
      have e2 : (if x < y then y else x) = v := by cases e; rfl
      by_cases q : x < y
      · rw [if_pos q] at e2; subst e2
        exact ⟨fun x' q' => (by cases q'; omega), fun y q => (by cases q; exact Int.le_refl _), Or.inr rfl⟩
      · rw [if_neg q] at e2; subst e2
        exact ⟨fun x q => (by cases q; exact Int.le_refl _), fun y' q' => (by cases q'; omega), Or.inl rfl⟩
theorem omax_none {a b : Option Int} : omax a b = none ↔ a = none ∧ b = none := by
  cases a <;> cases b <;> simp [omax]
theorem fld_none {c : Nat → Option Int} : ∀ {n : Nat}, fldO c n = none ↔ ∀ q, q < n → c q = none
  | 0 => ⟨fun _ q hq => absurd hq (Nat.not_lt_zero _), fun _ => rfl⟩
  | n + 1 => by
    show omax (fldO c n) (c n) = none ↔ _
    rw [omax_none, fld_none (n := n)]
    constructor
    · intro ⟨a, b⟩ q hq
      by_cases e : q = n
      · rw [e]; exact b
      · exact a q (by omega)
    · intro a
      exact ⟨fun q hq => a q (by omega), a n (by omega)⟩
theorem fld_some {c : Nat → Option Int} : ∀ {n : Nat} {v : Int}, fldO c n = some v → (∀ q x, q < n → c q = some x → x ≤ v) ∧ ∃ q, q < n ∧ c q = some v
  | 0, v, e => by cases e
  | n + 1, v, e => by
    have e' : omax (fldO c n) (c n) = some v := e
    obtain ⟨a1, a2, a3⟩ := omax_le e'
    refine ⟨fun q x hq ex => ?_, ?_⟩
    · by_cases en : q = n
      · rw [en] at ex; exact a2 x ex
      · cases ef : fldO c n with
        | none => have := fld_none.mp ef q (by omega); rw [this] at ex; cases ex
        | some u =>
          have h1 := (fld_some ef).1 q x (by omega) ex
          have h2 := a1 u ef
          omega
    · rcases a3 with a3 | a3
      · obtain ⟨q, hq, eq⟩ := (fld_some a3).2
        exact ⟨q, by omega, eq⟩
      · exact ⟨n, by omega, a3⟩
/-- past the last hour that counts nothing comes -/
theorem fld_past {c : Nat → Option Int} {a : Nat} : ∀ {b : Nat}, (∀ q, a ≤ q → q < a + b → c q = none) → fldO c (a + b) = fldO c a
  | 0, _ => rfl
  | b + 1, h => by
    show omax (fldO c (a + b)) (c (a + b)) = _
    rw [fld_past (b := b) (fun q h1 h2 => h q h1 (by omega)), h (a + b) (by omega) (by omega)]
    cases fldO c a <;> rfl
section
variable {n H : Nat} {may : Nat → Nat → Bool} {sc : Nat → Nat → Int}
/-- errand by errand: d errands are left, the hours of m are used -/
def rcn (may : Nat → Nat → Bool) (sc : Nat → Nat → Int) (i m : Nat) (R : Nat → Option Int) (q : Nat) : Option Int := if may i q && !m.testBit q then oadd (R (m ||| 2 ^ q)) (sc i q) else none
def rBx (n H : Nat) (may : Nat → Nat → Bool) (sc : Nat → Nat → Int) : Nat → Nat → Option Int
  | 0, _ => some 0
  | d + 1, m => fldO (rcn may sc (n - (d + 1)) m (rBx n H may sc d)) H
/-- a choice for the last d errands, beside the hours of m -/
def vR (n H : Nat) (may : Nat → Nat → Bool) : Nat → Nat → (Nat → Nat) → Prop
  | 0, _, _ => True
  | d + 1, m, f => f (n - (d + 1)) < H ∧ may (n - (d + 1)) (f (n - (d + 1))) = true ∧ m.testBit (f (n - (d + 1))) = false ∧ vR n H may d (m ||| 2 ^ f (n - (d + 1))) f
def sR (n : Nat) (sc : Nat → Nat → Int) : Nat → (Nat → Nat) → Int
  | 0, _ => 0
  | d + 1, f => sc (n - (d + 1)) (f (n - (d + 1))) + sR n sc d f
theorem rcn_some {i m q : Nat} {R : Nat → Option Int} {v : Int} (e : rcn may sc i m R q = some v) : may i q = true ∧ m.testBit q = false ∧ ∃ r, R (m ||| 2 ^ q) = some r ∧ r + sc i q = v := by
  unfold rcn at e
  by_cases c : (may i q && !m.testBit q) = true
  · rw [if_pos c] at e
    rw [Bool.and_eq_true, Bool.not_eq_true'] at c
    refine ⟨c.1, c.2, ?_⟩
    cases er : R (m ||| 2 ^ q) with
    | none => rw [er] at e; cases e
    | some r => rw [er] at e; exact ⟨r, rfl, by cases e; rfl⟩
  · rw [if_neg c] at e; cases e
theorem rcn_mk {i m q : Nat} {R : Nat → Option Int} {r : Int} (h1 : may i q = true) (h2 : m.testBit q = false) (h3 : R (m ||| 2 ^ q) = some r) : rcn may sc i m R q = some (r + sc i q) := by
  unfold rcn
  rw [if_pos (by rw [h1, h2]; rfl), h3]; rfl
/-- the first hour by which the best is reached -/
def ghq (P : Nat → Bool) : Nat → Nat
  | 0 => 0
  | q + 1 => if (ghq P q < q ∧ P (ghq P q) = true) then ghq P q else if P q = true then q else q + 1
theorem ghq_le (P : Nat → Bool) : ∀ q, ghq P q ≤ q
  | 0 => Nat.le_refl _
  | q + 1 => by
    have := ghq_le P q
    unfold ghq
    split
    · omega
    · split <;> omega
theorem ghq_lt {P : Nat → Bool} : ∀ {q : Nat}, (∃ j, j < q ∧ P j = true) → ghq P q < q ∧ P (ghq P q) = true ∧ ∀ j, j < ghq P q → P j = false
  | 0, ⟨j, hj, _⟩ => absurd hj (Nat.not_lt_zero _)
  | q + 1, ⟨j, hj, ej⟩ => by
    unfold ghq
    by_cases c : ghq P q < q ∧ P (ghq P q) = true
    · rw [if_pos c]
      exact ⟨by omega, c.2, (ghq_lt ⟨_, c.1, c.2⟩).2.2⟩
    · have no : ∀ i, i < q → P i = false := fun i hi => by
        cases e : P i with
        | false => rfl
        | true => exact absurd ⟨(ghq_lt ⟨i, hi, e⟩).1, (ghq_lt ⟨i, hi, e⟩).2.1⟩ c
      have eq : j = q := by
        by_cases e : j = q
        · exact e
        · have := no j (by omega); rw [this] at ej; cases ej
      subst eq
      rw [if_neg c, if_pos ej]
      exact ⟨by omega, ej, no⟩
def ghP (n H : Nat) (may : Nat → Nat → Bool) (sc : Nat → Nat → Int) (d m q : Nat) : Bool := decide (rcn may sc (n - (d + 1)) m (rBx n H may sc d) q = rBx n H may sc (d + 1) m)
def gh (n H : Nat) (may : Nat → Nat → Bool) (sc : Nat → Nat → Int) (d m : Nat) : Nat := ghq (ghP n H may sc d m) H
/-- the row of the first best choice: four bits an errand -/
def gr (n H : Nat) (may : Nat → Nat → Bool) (sc : Nat → Nat → Int) : Nat → Nat → Int
  | 0, _ => 0
  | d + 1, m => (gh n H may sc d m : Int) * 16 ^ (5 - (n - (d + 1))) + gr n H may sc d (m ||| 2 ^ gh n H may sc d m)
/-- packed scores -/
def pk (sc : Nat → Nat → Int) (i q : Nat) : Int := sc i q * 16777216 - (q : Int) * 16 ^ (5 - i)
theorem gh_lt {d m : Nat} {v : Int} (e : rBx n H may sc (d + 1) m = some v) : gh n H may sc d m < H ∧ rcn may sc (n - (d + 1)) m (rBx n H may sc d) (gh n H may sc d m) = some v ∧ ∀ q, q < gh n H may sc d m → rcn may sc (n - (d + 1)) m (rBx n H may sc d) q ≠ some v := by
  have e' : fldO (rcn may sc (n - (d + 1)) m (rBx n H may sc d)) H = some v := e
  obtain ⟨q, hq, eq⟩ := (fld_some e').2
  obtain ⟨a1, a2, a3⟩ := ghq_lt (P := ghP n H may sc d m) (q := H) ⟨q, hq, decide_eq_true (eq.trans e.symm)⟩
  refine ⟨a1, (of_decide_eq_true a2).trans e, fun j hj ej => ?_⟩
  exact of_decide_eq_false (a3 j hj) (ej.trans e.symm)
theorem p16 : ∀ i, i ≤ 5 → (16 : Int) ^ (5 - i) * 16 ≤ 16777216 ∧ 1 ≤ (16 : Int) ^ (5 - i) := by decide
theorem p16s {i : Nat} (hi : i < 5) : (16 : Int) ^ (5 - i) = 16 * 16 ^ (5 - (i + 1)) := by
  have : ∀ i, i < 5 → (16 : Int) ^ (5 - i) = 16 * 16 ^ (5 - (i + 1)) := by decide
  exact this i hi
theorem gr_bd (hn : n ≤ 6) (hH : H ≤ 12) : ∀ d m, d ≤ n → ∀ v, rBx n H may sc d m = some v → 0 ≤ gr n H may sc d m ∧ (d = 0 → gr n H may sc d m = 0) ∧ (0 < d → gr n H may sc d m < 16 ^ (5 - (n - d)) * 16)
  | 0, m, _, v, _ => ⟨Int.le_refl _, fun _ => rfl, fun q => absurd q (Nat.lt_irrefl _)⟩
  | d + 1, m, hd, v, e => by
    obtain ⟨g1, g2, -⟩ := gh_lt e
    obtain ⟨-, -, r, er, -⟩ := rcn_some g2
    obtain ⟨b1, b0, b2⟩ := gr_bd hn hH d _ (by omega) r er
    have pp := p16 (n - (d + 1)) (by omega)
    have g15 : (gh n H may sc d m : Int) ≤ 15 := by omega
    have hm : (gh n H may sc d m : Int) * 16 ^ (5 - (n - (d + 1))) ≤ 15 * 16 ^ (5 - (n - (d + 1))) := Int.mul_le_mul_of_nonneg_right g15 (by omega)
    have h0 : 0 ≤ (gh n H may sc d m : Int) * 16 ^ (5 - (n - (d + 1))) := Int.mul_nonneg (by omega) (by omega)
    refine ⟨by show 0 ≤ _ + _; omega, fun q => by omega, fun _ => ?_⟩
    show _ + _ < _
    by_cases d0 : d = 0
    · have := b0 d0; omega
    · have b3 := b2 (by omega)
      have e16 := p16s (i := n - (d + 1)) (by omega)
      rw [show n - (d + 1) + 1 = n - d by omega] at e16
      omega
/-- errand by errand: none, or the best; packed, the first best -/
theorem rB_none : ∀ d m, rBx n H may sc d m = none → ∀ f, ¬ vR n H may d m f
  | 0, m, e, f => by cases e
  | d + 1, m, e, f => fun ⟨v1, v2, v3, v4⟩ => by
    have c := fld_none.mp e _ v1
    cases er : rBx n H may sc d (m ||| 2 ^ f (n - (d + 1))) with
    | none => exact rB_none d _ er f v4
    | some r => rw [rcn_mk v2 v3 er] at c; cases c
theorem rB_pk (hn : n ≤ 6) (hH : H ≤ 12) : ∀ d m, d ≤ n → ∀ v, rBx n H may sc d m = some v → ∀ f, vR n H may d m f → sR n (pk sc) d f ≤ v * 16777216 - gr n H may sc d m
  | 0, m, _, v, e, f, _ => by cases e; exact Int.le_refl _
  | d + 1, m, hd, v, e, f, ⟨v1, v2, v3, v4⟩ => by
    cases er : rBx n H may sc d (m ||| 2 ^ f (n - (d + 1))) with
    | none => exact absurd v4 (rB_none d _ er f)
    | some r =>
      have ih := rB_pk hn hH d _ (by omega) r er f v4
      have cq := rcn_mk (sc := sc) v2 v3 er
      have le := (fld_some e).1 _ _ v1 cq
      obtain ⟨g1, g2, g3⟩ := gh_lt e
      obtain ⟨-, -, r2, er2, e2⟩ := rcn_some g2
      obtain ⟨b1, b0, b2⟩ := gr_bd hn hH d _ (by omega) r er
      obtain ⟨c1, c0, c2⟩ := gr_bd hn hH d _ (by omega) r2 er2
      obtain ⟨w1, -, w2⟩ := gr_bd hn hH (d + 1) m hd v e
      have pp := p16 (n - (d + 1)) (by omega)
      have hg : gr n H may sc (d + 1) m = (gh n H may sc d m : Int) * 16 ^ (5 - (n - (d + 1))) + gr n H may sc d (m ||| 2 ^ gh n H may sc d m) := rfl
      have hw := w2 (by omega)
      have hf0 : 0 ≤ (f (n - (d + 1)) : Int) * 16 ^ (5 - (n - (d + 1))) := Int.mul_nonneg (by omega) (by omega)
      show sc (n - (d + 1)) (f (n - (d + 1))) * 16777216 - (f (n - (d + 1)) : Int) * 16 ^ (5 - (n - (d + 1))) + sR n (pk sc) d f ≤ _
      by_cases lt : r + sc (n - (d + 1)) (f (n - (d + 1))) < v
      · omega
      · have eq : r + sc (n - (d + 1)) (f (n - (d + 1))) = v := by omega
        have ge : gh n H may sc d m ≤ f (n - (d + 1)) := Nat.le_of_not_lt (fun q => g3 _ q (by rw [cq, eq]))
        by_cases same : f (n - (d + 1)) = gh n H may sc d m
        · rw [same] at ih hf0 eq er ⊢
          omega
        · have gt : (gh n H may sc d m : Int) + 1 ≤ (f (n - (d + 1)) : Int) := by omega
          have hm : ((gh n H may sc d m : Int) + 1) * 16 ^ (5 - (n - (d + 1))) ≤ (f (n - (d + 1)) : Int) * 16 ^ (5 - (n - (d + 1))) := Int.mul_le_mul_of_nonneg_right gt (by omega)
          rw [Int.add_mul, Int.one_mul] at hm
          have lt16 : gr n H may sc d (m ||| 2 ^ gh n H may sc d m) < 16 ^ (5 - (n - (d + 1))) := by
            by_cases d0 : d = 0
            · have := c0 d0; omega
            · have b3 := c2 (by omega)
              have e16 := p16s (i := n - (d + 1)) (by omega)
              rw [show n - (d + 1) + 1 = n - d by omega] at e16
              omega
          omega
/-- the first best choice -/
def gf (n H : Nat) (may : Nat → Nat → Bool) (sc : Nat → Nat → Int) : Nat → Nat → Nat → Nat
  | 0, _, _ => 0
  | d + 1, m, i => if i = n - (d + 1) then gh n H may sc d m else gf n H may sc d (m ||| 2 ^ gh n H may sc d m) i
theorem vR_congr {f k : Nat → Nat} : ∀ d m, d ≤ n → (∀ i, n - d ≤ i → i < n → f i = k i) → vR n H may d m f → vR n H may d m k
  | 0, _, _, _, _ => trivial
  | d + 1, m, hd, e, ⟨v1, v2, v3, v4⟩ => by
    have e0 := e (n - (d + 1)) (by omega) (by omega)
    rw [e0] at v1 v2 v3 v4
    exact ⟨v1, v2, v3, vR_congr d _ (by omega) (fun i h1 h2 => e i (by omega) h2) v4⟩
theorem sR_congr {f k : Nat → Nat} : ∀ d, d ≤ n → (∀ i, n - d ≤ i → i < n → f i = k i) → sR n sc d f = sR n sc d k
  | 0, _, _ => rfl
  | d + 1, hd, e => by
    show sc _ (f _) + _ = sc _ (k _) + _
    rw [e (n - (d + 1)) (by omega) (by omega), sR_congr d (by omega) (fun i h1 h2 => e i (by omega) h2)]
theorem gf_at : ∀ d m, d ≤ n → ∀ v, rBx n H may sc d m = some v → vR n H may d m (gf n H may sc d m) ∧ sR n sc d (gf n H may sc d m) = v ∧ sR n (pk sc) d (gf n H may sc d m) = v * 16777216 - gr n H may sc d m
  | 0, m, _, v, e => by cases e; exact ⟨trivial, rfl, rfl⟩
  | d + 1, m, hd, v, e => by
    obtain ⟨g1, g2, -⟩ := gh_lt e
    obtain ⟨m1, m2, r, er, e2⟩ := rcn_some g2
    obtain ⟨i1, i2, i3⟩ := gf_at d _ (by omega) r er
    have e0 : gf n H may sc (d + 1) m (n - (d + 1)) = gh n H may sc d m := by unfold gf; rw [if_pos rfl]
    have e1 : ∀ i, n - d ≤ i → i < n → gf n H may sc d (m ||| 2 ^ gh n H may sc d m) i = gf n H may sc (d + 1) m i := fun i h1 h2 => by
      show _ = if i = n - (d + 1) then _ else _
      rw [if_neg (by omega)]
    refine ⟨⟨by rw [e0]; exact g1, by rw [e0]; exact m1, by rw [e0]; exact m2, by rw [e0]; exact vR_congr d _ (by omega) e1 i1⟩, ?_, ?_⟩
    · show sc _ (gf n H may sc (d + 1) m (n - (d + 1))) + _ = v
      rw [e0, ← sR_congr d (by omega) e1, i2]; omega
    · show pk sc _ (gf n H may sc (d + 1) m (n - (d + 1))) + _ = v * 16777216 - (_ + _)
      rw [e0, ← sR_congr d (by omega) e1, i3]
      unfold pk
      have : v * 16777216 = r * 16777216 + sc (n - (d + 1)) (gh n H may sc d m) * 16777216 := by rw [← e2]; omega
      omega
theorem gf_lt (hH : H ≤ 12) : ∀ d m, d ≤ n → ∀ v, rBx n H may sc d m = some v → ∀ i, n - d ≤ i → i < n → gf n H may sc d m i < H
  | 0, m, _, v, e, i, h1, h2 => by omega
  | d + 1, m, hd, v, e, i, h1, h2 => by
    obtain ⟨g1, g2, -⟩ := gh_lt e
    obtain ⟨m1, m2, r, er, e2⟩ := rcn_some g2
    unfold gf
    split
    · exact g1
    · exact gf_lt hH d _ (by omega) r er i (by omega) h2
end
end
