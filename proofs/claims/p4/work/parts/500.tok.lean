section
/-! TOKENS: bytes T, the first n of them; from place a on -/
def isL (x : Int32) : Bool := decide (97 ≤ x ∧ x ≤ 122)
def isD (x : Int32) : Bool := decide (48 ≤ x ∧ x ≤ 57)
def isB (x : Int32) : Bool := decide (x = 10 ∨ x = 32)
def rnf (P : Int32 → Bool) (T : Nat → Int32) (n : Nat) : Nat → Nat → Nat
  | 0, a => a
  | k + 1, a => if a < n ∧ P (T a) = true then rnf P T n k (a + 1) else a
/-- the first place from a on that is the end or not of the kind P -/
def rn (P : Int32 → Bool) (T : Nat → Int32) (n a : Nat) : Nat := rnf P T n (n - a) a
theorem rn_go {P : Int32 → Bool} {T : Nat → Int32} {n a : Nat} (h : a < n) (p : P (T a) = true) : rn P T n a = rn P T n (a + 1) := by
  unfold rn
  rw [show n - a = (n - (a + 1)) + 1 by omega]
  show (if a < n ∧ P (T a) = true then _ else a) = _
  rw [if_pos ⟨h, p⟩]
theorem rn_no {P : Int32 → Bool} {T : Nat → Int32} {n a : Nat} (h : ¬ (a < n ∧ P (T a) = true)) : rn P T n a = a := by
  unfold rn
  cases e : n - a with
  | zero => rfl
  | succ k => show (if a < n ∧ P (T a) = true then _ else a) = _; rw [if_neg h]
theorem rn_bd {P : Int32 → Bool} {T : Nat → Int32} {n : Nat} : ∀ k a : Nat, a + k = n → a ≤ rn P T n a ∧ rn P T n a ≤ n ∧ ∀ j, a ≤ j → j < rn P T n a → P (T j) = true := by
  intro k
  induction k with
  | zero =>
    intro a ha
    rw [rn_no (by omega)]
    exact ⟨Nat.le_refl _, by omega, fun j h1 h2 => by omega⟩
  | succ k ih =>
    intro a ha
    by_cases q : a < n ∧ P (T a) = true
    · rw [rn_go q.1 q.2]
      obtain ⟨h1, h2, h3⟩ := ih (a + 1) (by omega)
      refine ⟨by omega, h2, fun j hj1 hj2 => ?_⟩
      by_cases e : j = a
      · rw [e]; exact q.2
      · exact h3 j (by omega) hj2
    · rw [rn_no q]
      exact ⟨Nat.le_refl _, by omega, fun j h1 h2 => by omega⟩
theorem rn_le {P : Int32 → Bool} {T : Nat → Int32} {n a : Nat} (h : a ≤ n) : a ≤ rn P T n a ∧ rn P T n a ≤ n := ⟨(rn_bd (n - a) a (by omega)).1, (rn_bd (n - a) a (by omega)).2.1⟩
def tks (T : Nat → Int32) (n a : Nat) : Nat := rn isB T n a
/-- kinds: 0 end, 1 word, 2 number, 3 semicolon, 4 no token -/
def tkk (T : Nat → Int32) (n a : Nat) : Nat := if tks T n a < n then (if isL (T (tks T n a)) then 1 else if isD (T (tks T n a)) then (if rn isD T n (tks T n a) - tks T n a ≤ 3 then 2 else 4) else if T (tks T n a) = 59 then 3 else 4) else 0
def tkb (T : Nat → Int32) (n a : Nat) : Nat := if tks T n a < n then (if isL (T (tks T n a)) then rn isL T n (tks T n a) else if isD (T (tks T n a)) then rn isD T n (tks T n a) else tks T n a + 1) else tks T n a
def dg (x : Int32) : Nat := (x.toInt - 48).toNat
def dval (T : Nat → Int32) (s : Nat) : Nat → Nat
  | 0 => 0
  | k + 1 => dval T s k * 10 + dg (T (s + k))
def tkn (T : Nat → Int32) (n a : Nat) : Nat := dval T (tks T n a) (tkb T n a - tks T n a)
theorem tk_bd {T : Nat → Int32} {n a : Nat} (h : a ≤ n) : a ≤ tks T n a ∧ tks T n a ≤ tkb T n a ∧ tkb T n a ≤ n ∧ (tkk T n a ≠ 0 → tks T n a < tkb T n a) := by
  obtain ⟨h1, h2⟩ := rn_le (P := isB) (T := T) h
  have h2 : tks T n a ≤ n := h2
  have h1 : a ≤ tks T n a := h1
  refine ⟨h1, ?_⟩
  unfold tkb tkk
  by_cases q : tks T n a < n
  · rw [if_pos q, if_pos q]
    by_cases q1 : isL (T (tks T n a)) = true
    · rw [if_pos q1, if_pos q1]
      have := rn_le (P := isL) (T := T) (n := n) (a := tks T n a + 1) (by omega)
      rw [rn_go q q1]
      exact ⟨by omega, this.2, fun _ => by omega⟩
    · rw [if_neg q1, if_neg q1]
      by_cases q2 : isD (T (tks T n a)) = true
      · rw [if_pos q2, if_pos q2]
        have := rn_le (P := isD) (T := T) (n := n) (a := tks T n a + 1) (by omega)
        rw [rn_go q q2]
        exact ⟨by omega, this.2, fun _ => by omega⟩
      · rw [if_neg q2, if_neg q2]
        exact ⟨by omega, by omega, fun _ => by omega⟩
  · rw [if_neg q, if_neg q]
    exact ⟨Nat.le_refl _, h2, fun z => absurd rfl z⟩
theorem dg_nI {x : Int32} (h : isD x = true) : x = nI (48 + dg x) ∧ dg x ≤ 9 := by
  obtain ⟨h1, h2⟩ := of_decide_eq_true h
  have h1 := i_le.mp h1
  have h2 := i_le.mp h2
  have h1 : (48 : Int) ≤ x.toInt := h1
  have h2 : x.toInt ≤ (57 : Int) := h2
  unfold dg
  refine ⟨i_inj ?_, by omega⟩
  rw [nI_toInt (by omega)]
  omega
theorem dval_3 {T : Nat → Int32} {s k : Nat} (hk : k ≤ 3) (h : ∀ j, j < k → isD (T (s + j)) = true) : dval T s k ≤ 999 := by
  have d : ∀ j, j < k → dg (T (s + j)) ≤ 9 := fun j hj => (dg_nI (h j hj)).2
  match k, hk with
  | 0, _ => exact Nat.zero_le _
  | 1, _ => have := d 0 (by decide); show 0 * 10 + dg (T (s + 0)) ≤ 999; omega
  | 2, _ => have := d 0 (by decide); have := d 1 (by decide); show (0 * 10 + dg (T (s + 0))) * 10 + dg (T (s + 1)) ≤ 999; omega
  | 3, _ => have := d 0 (by decide); have := d 1 (by decide); have := d 2 (by decide); show ((0 * 10 + dg (T (s + 0))) * 10 + dg (T (s + 1))) * 10 + dg (T (s + 2)) ≤ 999; omega
theorem dval_nI {T : Nat → Int32} {s k : Nat} (h : isD (T (s + k)) = true) : nI (dval T s k) * 10 + T (s + k) - 48 = nI (dval T s (k + 1)) := by
  obtain ⟨e, -⟩ := dg_nI h
  rw [show nI (dval T s k) * 10 + T (s + k) = nI (dval T s k * 10 + (48 + dg (T (s + k)))) by
    rw [e, show (10 : Int32) = nI 10 from rfl, pk_mul, nI_add, ← e], show dval T s k * 10 + (48 + dg (T (s + k))) = dval T s (k + 1) + 48 by show _ = dval T s k * 10 + dg (T (s + k)) + 48; omega, ← nI_add, show nI 48 = (48 : Int32) from rfl]
  exact Int32.add_sub_cancel _ _
end
