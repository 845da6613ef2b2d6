section
/-! the greatest common divisor, by Euclid -/
def gL (a b : Int64) : Int64 := lN (Nat.gcd a.toInt.natAbs b.toInt.natAbs)
def sp_sd (a b : Int64) (u : Int32) : Int64 := if u = 0 then a / gL a b else b / gL a b
theorem l_inj {x y : Int64} (h : x.toInt = y.toInt) : x = y := Int64.toInt_inj.mp h
theorem l_bd (x : Int64) : -9223372036854775808 ≤ x.toInt ∧ x.toInt < 9223372036854775808 := ⟨Int64.le_toInt x, Int64.toInt_lt x⟩
theorem l_of {x : Int64} (h : 0 ≤ x.toInt) : x = lN x.toInt.natAbs := by
  have := l_bd x
  refine l_inj ?_
  rw [pk_lT (by omega)]
  omega
theorem l_neg {x : Int64} (h : -9223372036854775808 < x.toInt) : (-x).toInt = -x.toInt := by
  have := l_bd x
  rw [Int64.toInt_neg]
  exact Int.bmod_eq_of_le (by omega) (by omega)
theorem l_lt {x y : Int64} : x < y ↔ x.toInt < y.toInt := Int64.lt_iff_toInt_lt
theorem l_le {x y : Int64} : x ≤ y ↔ x.toInt ≤ y.toInt := Int64.le_iff_toInt_le
theorem l_0 : (0 : Int64).toInt = 0 := rfl
theorem labs_eq {x : Int64} (h : -9223372036854775808 < x.toInt) : (if 0 < x then x else if x = 0 then x else -x) = lN x.toInt.natAbs := by
  split
  · rename_i h1
    rw [l_lt, l_0] at h1
    exact l_of (by omega)
  · rename_i h1
    rw [l_lt, l_0] at h1
    split
    · rename_i h2
      exact l_of (by rw [h2, l_0]; exact Int.le_refl _)
    · have hn := l_neg h
      rw [l_of (x := -x) (by rw [hn]; omega), hn, Int.natAbs_neg]
theorem lcmp_0 {x : Int64} : lg_cmp x 0 = 0 ↔ x = 0 := by
  unfold lg_cmp
  constructor
  · intro h
    split at h
    · cases h
    · split at h
      · assumption
      · cases h
  · rintro rfl
    rfl
theorem lcmp_neg {x : Int64} : 0 ≤ lg_cmp x 0 ↔ ¬ x < 0 := by
  unfold lg_cmp
  by_cases h1 : x > 0
  · rw [if_pos h1]
    refine ⟨fun _ h2 => ?_, fun _ => by decide⟩
    rw [gt_iff_lt, l_lt] at h1
    rw [l_lt] at h2
    omega
  · rw [if_neg h1]
    by_cases h2 : x = 0
    · rw [if_pos h2, h2]
      exact ⟨fun _ => by decide, fun _ => by decide⟩
    · rw [if_neg h2]
      refine ⟨fun h => absurd h (by decide), fun h => ?_⟩
      exfalso
      rw [gt_iff_lt, l_lt, l_0] at h1
      rw [l_lt, l_0] at h
      exact h2 (l_inj (by rw [l_0]; omega))
/-- the second number behind n steps -/
def eu : Nat → Nat → Nat → Nat
  | 0, _, b => b
  | n + 1, a, b => if b = 0 then 0 else eu n b (a % b)
def fbp : Nat → Nat × Nat
  | 0 => (1, 2)
  | n + 1 => ((fbp n).2, (fbp n).1 + (fbp n).2)
theorem eu_fb : ∀ n : Nat, (∀ a b, eu n a b ≠ 0 → (fbp n).1 ≤ b) ∧ ∀ a b, eu (n + 1) a b ≠ 0 → (fbp n).2 ≤ b := by
  intro n
  induction n with
  | zero =>
    refine ⟨fun a b h => Nat.pos_of_ne_zero h, fun a b h => ?_⟩
    unfold eu at h
    split at h
    · exact absurd rfl h
    · rename_i hb
      have h1 : a % b ≠ 0 := h
      have := Nat.mod_lt a (Nat.pos_of_ne_zero hb)
      show 2 ≤ b
      omega
  | succ n ih =>
    refine ⟨ih.2, fun a b h => ?_⟩
    unfold eu at h
    split at h
    · exact absurd rfl h
    · rename_i hb
      have h1 := ih.2 b (a % b) h
      unfold eu at h
      split at h
      · exact absurd rfl h
      · rename_i hc
        have h2 := ih.1 (a % b) (b % (a % b)) h
        have h3 := Nat.mod_lt a (Nat.pos_of_ne_zero hb)
        have h4 := Nat.div_add_mod b (a % b)
        have h5 : 1 ≤ b / (a % b) := (Nat.one_le_div_iff (Nat.pos_of_ne_zero hc)).mpr (Nat.le_of_lt h3)
        have h6 : (a % b) * 1 ≤ (a % b) * (b / (a % b)) := Nat.mul_le_mul_left _ h5
        show (fbp n).1 + (fbp n).2 ≤ b
        omega
theorem fb_100 : 9223372036854775808 ≤ (fbp 100).1 := by decide +kernel
theorem eu_100 {a b : Nat} (hb : b < 9223372036854775808) : eu 100 a b = 0 := by
  by_cases h : eu 100 a b = 0
  · exact h
  · have := (eu_fb 100).1 a b h
    have := fb_100
    omega
variable {g : ax_G} {Ret : Option Value → ax_H → Prop} {h : ax_H}
theorem c_divisor {a b : Int64} (ha : -9223372036854775808 < a.toInt) (hb : 0 < b.toInt) (hq : Ret (some (.long (gL a b))) h) : mX1_divisor g [.long a, .long b] h Ret := by
  have hbb := l_bd b
  have hab := l_bd a
  refine uX1_divisor (fun A hA => vX1_divisor_0 hA ?_)
  rw [labs_eq ha, labs_eq (by omega)]
  have hG : 1 ≤ Nat.gcd a.toInt.natAbs b.toInt.natAbs := Nat.gcd_pos_of_pos_right _ (by omega)
  have fin : ∀ x : Nat, x = Nat.gcd a.toInt.natAbs b.toInt.natAbs → x < 9223372036854775808 → (if (1 : Int64) < lN x then lN x else 1) = gL a b := by
    intro x hx hlt
    unfold gL
    rw [← hx] at hG ⊢
    by_cases e : x = 1
    · subst e; rfl
    · rw [if_pos (by rw [show (1 : Int64) = lN 1 from rfl, pk_lLT (by decide) (by omega)]; omega)]
  have key : ∀ n i x y : Nat, ∀ (o0 o1 o2 o3 o9 o10 : Option Value), i + n = 100 → x < 9223372036854775808 → y < 9223372036854775808 → eu n x y = 0 → Nat.gcd x y = Nat.gcd a.toInt.natAbs b.toInt.natAbs → A (15, [o0, o1, o2, o3, some (.long (lN x)), none, some (.long (lN y)), none, some (.int (nI i)), o9, o10], [], h, 0, 0) := by
    intro n
    induction n with
    | zero =>
      intro i x y o0 o1 o2 o3 o9 o10 hi hx hy he hg
      have hy0 : y = 0 := he
      subst hy0
      rw [Nat.gcd_zero_right] at hg
      refine vX1_divisor_15 hA ⟨fun _ => by rw [fin x hg hx]; exact hq, fun q => ⟨fun _ => by rw [fin x hg hx]; exact hq, fun q2 => absurd (lcmp_0.mpr rfl) q2⟩⟩
    | succ n ih =>
      intro i x y o0 o1 o2 o3 o9 o10 hi hx hy he hg
      refine vX1_divisor_15 hA ⟨fun q => ?_, fun _ => ⟨fun q => ?_, fun q => ?_⟩⟩
      · exact absurd q (nI_ge (a := i) (b := 100) (by omega) (by decide))
      · rw [lcmp_0] at q
        have hy0 : y = 0 := (pk_lEQ hy (by decide)).mp q
        subst hy0
        rw [Nat.gcd_zero_right] at hg
        rw [fin x hg hx]; exact hq
      · rw [lcmp_0] at q
        have hy0 : y ≠ 0 := fun z => q (by rw [z]; rfl)
        refine ⟨q, ?_⟩
        rw [pk_lRem hx (by omega) hy]
        have hm := Nat.mod_lt x (Nat.pos_of_ne_zero hy0)
        have := ih (i + 1) y (x % y) o0 o1 o2 (ax_k2 o3) (some (.long (lN (x % y)))) none (by omega) hy (by omega) (by unfold eu at he; rw [if_neg hy0] at he; exact he) (by rw [← hg, Nat.gcd_comm y, ← Nat.gcd_rec, Nat.gcd_comm])
        rw [nI_succ] at this
        exact this
  exact key 100 0 _ _ _ _ _ _ _ _ (by omega) (by omega) (by omega) (eu_100 (by omega)) rfl
theorem gL_ne0 {a b : Int64} (hb : 0 < b.toInt) : ¬ gL a b = 0 := by
  have hbb := l_bd b
  intro q
  have hG : 1 ≤ Nat.gcd a.toInt.natAbs b.toInt.natAbs := Nat.gcd_pos_of_pos_right _ (by omega)
  have hle : Nat.gcd a.toInt.natAbs b.toInt.natAbs ≤ b.toInt.natAbs := Nat.gcd_le_right _ (by omega)
  have := (pk_lEQ (a := Nat.gcd a.toInt.natAbs b.toInt.natAbs) (b := 0) (by omega) (by decide)).mp q
  omega
theorem c_side {a b : Int64} {u : Int32} (ha : -9223372036854775808 < a.toInt) (hb : 0 < b.toInt) (hq : Ret (some (.long (sp_sd a b u))) h) : mX1_side g [.long a, .long b, .int u] h Ret := by
  unfold sp_sd at hq
  refine eX1_side (c_divisor ha hb ⟨_, rfl, fun h1 => ⟨gL_ne0 hb, ?_⟩, fun h1 => ⟨gL_ne0 hb, ?_⟩⟩)
  · rw [if_pos h1] at hq; exact hq
  · rw [if_neg h1] at hq; exact hq
theorem c_common {a b : Int64} (ha : -9223372036854775808 < a.toInt) (hb : 0 < b.toInt) (hq : Ret (some (.long (gL a b))) h) : mX10_common g [.long a, .long b] h Ret := by
  have hbb := l_bd b
  have hab := l_bd a
  refine uX10_common (fun A hA => vX10_common_0 hA ?_)
  have key : ∀ y : Nat, ∀ x : Nat, ∀ (o0 o1 o2 o3 o8 o9 : Option Value), x < 9223372036854775808 → y < 9223372036854775808 → Nat.gcd x y = Nat.gcd a.toInt.natAbs b.toInt.natAbs → A (17, [o0, o1, o2, o3, some (.long (lN x)), none, some (.long (lN y)), none, o8, o9], [], h, 0, 0) := by
    intro y
    induction y using Nat.strongRecOn with
    | ind y ih =>
      intro x o0 o1 o2 o3 o8 o9 hx hy hg
      refine vX10_common_17 hA ⟨fun q => ?_, fun q => ?_⟩
      · rw [lcmp_0] at q
        have hy0 : y = 0 := (pk_lEQ hy (by decide)).mp q
        subst hy0
        rw [Nat.gcd_zero_right] at hg
        rw [hg]; exact hq
      · rw [lcmp_0] at q
        have hy0 : y ≠ 0 := fun z => q (by rw [z]; rfl)
        refine ⟨q, ?_⟩
        rw [pk_lRem hx (by omega) hy]
        have hm := Nat.mod_lt x (Nat.pos_of_ne_zero hy0)
        exact ih (x % y) hm y o0 o1 o2 (ax_k2 o3) _ _ hy (by omega) (by rw [← hg, Nat.gcd_comm y, ← Nat.gcd_rec, Nat.gcd_comm])
  have eb : b = lN b.toInt.natAbs := l_of (by omega)
  refine ⟨fun h1 => ?_, fun h1 => ?_⟩
  · rw [lcmp_neg, l_lt, l_0] at h1
    have ea : a = lN a.toInt.natAbs := l_of (by omega)
    have := key b.toInt.natAbs a.toInt.natAbs (some (.long a)) none (some (.long b)) none none none (by omega) (by omega) rfl
    rw [← ea, ← eb] at this
    exact this
  · rw [lcmp_neg, l_lt, l_0] at h1
    have hn := l_neg ha
    have ea : -a = lN a.toInt.natAbs := by rw [l_of (x := -a) (by rw [hn]; omega), hn, Int.natAbs_neg]
    have := key b.toInt.natAbs a.toInt.natAbs (some (.long a)) none (some (.long b)) none none none (by omega) (by omega) rfl
    rw [← ea, ← eb] at this
    exact this
theorem c_part {a b : Int64} {u : Int32} (ha : -9223372036854775808 < a.toInt) (hb : 0 < b.toInt) (hq : Ret (some (.long (sp_sd a b u))) h) : mX10_part g [.long a, .long b, .int u] h Ret := by
  unfold sp_sd at hq
  refine eX10_part (c_common ha hb ⟨_, rfl, fun h1 => ⟨gL_ne0 hb, ?_⟩, fun h1 => ⟨gL_ne0 hb, ?_⟩⟩)
  · rw [if_pos h1] at hq; exact hq
  · rw [if_neg h1] at hq; exact hq
end
