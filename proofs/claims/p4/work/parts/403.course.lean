section
/-! the course of days: people, hours, purses, values -/
def co_F (c : Nat) : Nat → Prop := fun a => a = c ∨ a = c + 1 ∨ a = c + 2
def co_st (h : ax_H) (c : Nat) : Prop := (ax_s h c).1 = 0 ∧ ax_r h c 0 = some (c + 1) ∧ ax_r h c 1 = some (c + 2) ∧ ax_s h (c + 1) = (11, 6) ∧ ax_s h (c + 2) = (11, 72)
def co_at (h : ax_H) (c P H : Nat) (hv : Nat → Int32) (vl : Nat → Nat → Int32) : Prop := co_st h c ∧ (P ≤ 6 ∧ H ≤ 12) ∧ ax_i h c 2 = nI P ∧ ax_i h c 3 = nI H ∧ (∀ p, p < P → ax_i h (c + 1) p = hv p) ∧ ∀ p q, p < P → q < H → ax_i h (c + 2) (p * 12 + q) = vl p q
theorem co_st_same {F : Nat → Prop} {h h' : ax_H} {c : Nat} (hs : ax_same F h h') (a : co_st h c) : co_st h' c := ⟨by rw [hs.2.1]; exact a.1, by rw [hs.2.2.1]; exact a.2.1, by rw [hs.2.2.1]; exact a.2.2.1, by rw [hs.2.1]; exact a.2.2.2.1, by rw [hs.2.1]; exact a.2.2.2.2⟩
theorem co_at_same {F : Nat → Prop} {h h' : ax_H} {c P H : Nat} {hv : Nat → Int32} {vl : Nat → Nat → Int32} (hs : ax_same F h h') (hF : ¬ F c ∧ ¬ F (c + 1) ∧ ¬ F (c + 2)) (a : co_at h c P H hv vl) : co_at h' c P H hv vl := ⟨co_st_same hs a.1, a.2.1, by rw [(hs.2.2.2 _ hF.1).1]; exact a.2.2.1, by rw [(hs.2.2.2 _ hF.1).1]; exact a.2.2.2.1, fun p hp => by rw [(hs.2.2.2 _ hF.2.1).1]; exact a.2.2.2.2.1 p hp, fun p q hp hq => by rw [(hs.2.2.2 _ hF.2.2).1]; exact a.2.2.2.2.2 p q hp hq⟩
/-- the first of the n + 1 with least -/
def poo (hv : Nat → Int32) : Nat → Nat
  | 0 => 0
  | n + 1 => if hv (n + 1) < hv (poo hv n) then n + 1 else poo hv n
theorem poo_le (hv : Nat → Int32) : ∀ n, poo hv n ≤ n
  | 0 => Nat.le_refl _
  | n + 1 => by
    unfold poo
    have := poo_le hv n
    split <;> omega
theorem poo_congr {hv hw : Nat → Int32} : ∀ {n : Nat}, (∀ p, p ≤ n → hv p = hw p) → poo hv n = poo hw n
  | 0, _ => rfl
  | n + 1, h => by
    have e := poo_congr (n := n) (fun p hp => h p (by omega))
    unfold poo
    rw [e, h (n + 1) (Nat.le_refl _), h (poo hw n) (by have := poo_le hw n; omega)]
def sp_po (P : Nat) (hv : Nat → Int32) : Int32 := if P = 0 then -1 else nI (poo hv (P - 1))
/-- the first of the n + 1 with most -/
def bst (f : Nat → Int32) : Nat → Nat
  | 0 => 0
  | n + 1 => if f (bst f n) < f (n + 1) then n + 1 else bst f n
theorem bst_le (f : Nat → Int32) : ∀ n, bst f n ≤ n
  | 0 => Nat.le_refl _
  | n + 1 => by
    unfold bst
    have := bst_le f n
    split <;> omega
theorem bst_congr {f f' : Nat → Int32} : ∀ {n : Nat}, (∀ p, p ≤ n → f p = f' p) → bst f n = bst f' n
  | 0, _ => rfl
  | n + 1, h => by
    have e := bst_congr (n := n) (fun p hp => h p (by omega))
    unfold bst
    rw [e, h (n + 1) (Nat.le_refl _), h (bst f' n) (by have := bst_le f' n; omega)]
/-- what an hour brings to one, or to all -/
def sp_br (P H : Nat) (vl : Nat → Nat → Int32) (x y : Int32) : Int32 := if y < 0 ∨ nI H ≤ y ∨ nI P ≤ x then 0 else if x < 0 then sumN (fun p => vl p y.toNatClampNeg) P else vl x.toNatClampNeg y.toNatClampNeg
def iabs (x : Int32) : Int32 := if 0 ≤ x then x else 0 - x
theorem sp_br_in {P H : Nat} {vl : Nat → Nat → Int32} {p q : Nat} (hp : p < P) (hq : q < H) (hP : P ≤ 6) (hH : H ≤ 12) : sp_br P H vl (nI p) (nI q) = vl p q := by
  unfold sp_br
  rw [if_neg, if_neg (nI_pos (by omega)), nI_clamp (by omega), nI_clamp (by omega)]
  rintro (h | h | h)
  · exact nI_pos (by omega) h
  · exact nI_ge hq (by omega) h
  · exact nI_ge hp (by omega) h
variable {g : ax_G} {Ret : Option Value → ax_H → Prop} {h : ax_H} {c P H : Nat} {hv : Nat → Int32} {vl : Nat → Nat → Int32}
theorem c_brings {x y : Int32} (hC : co_at h c P H hv vl) (hq : Ret (some (.int (sp_br P H vl x y))) h) : mX0_brings g [.ref c, .int x, .int y] h Ret := by
  obtain ⟨⟨s0, -, r1, -, s2⟩, ⟨hP, hH⟩, e2, e3, -, ev⟩ := hC
  unfold sp_br at hq
  refine uX0_brings (fun A hA => vX0_brings_0 hA ⟨fun h1 => ?_, fun h1 => ⟨s0, fun h2 => ?_, fun h2 => ⟨s0, fun h3 => ⟨fun h4 => ?_, fun h4 => ?_⟩, fun h3 => ?_⟩⟩⟩)
  · rw [if_pos (Or.inl h1)] at hq; exact hq
  · rw [e3] at h2; rw [if_pos (Or.inr (Or.inl h2))] at hq; exact hq
  · rw [e3] at h2
    rw [e2] at h3
    rw [if_neg (by rintro (z | z | z); exact h1 z; exact h2 z; exact absurd h3 (nt_lt.mpr z)), if_pos h4] at hq
    obtain ⟨j, hj, rfl⟩ := (ni_ix (n := H) (by omega)).mp ⟨h1, h2⟩
    rw [nI_clamp (by omega)] at hq
    have key : ∀ n i : Nat, ∀ o1 : Option Value, i + n = P → A (43, [some (.ref c), o1, some (.int (nI j)), some (.int (sumN (fun p => vl p j) i)), some (.int (nI i))], [], h, 0, 0) := by
      intro n
      induction n with
      | zero =>
        intro i o1 hi
        refine vX0_brings_43 hA ⟨s0, fun _ => ?_, fun q => ?_⟩
        · rw [show i = P by omega]; exact hq
        · rw [e2] at q; exact absurd (nI_le (by omega) (by omega)) q
      | succ n ih =>
        intro i o1 hi
        refine vX0_brings_43 hA ⟨s0, fun q => ?_, fun _ => ⟨s0, _, r1, by rw [s2], ?_, ?_⟩⟩
        · rw [e2] at q; exact absurd q (nI_ge (by omega) (by omega))
        · rw [s2, ni_12]; exact vp_in_nI (by omega) (by decide)
        · rw [ni_12, nI_clamp (by omega), ev i j (by omega) hj, ← nI_succ]
          exact ih (i + 1) o1 (by omega)
    exact key P 0 _ (by omega)
  · rw [e3] at h2
    rw [e2] at h3
    rw [if_neg (by rintro (z | z | z); exact h1 z; exact h2 z; exact absurd h3 (nt_lt.mpr z)), if_neg h4] at hq
    obtain ⟨j, hj, rfl⟩ := (ni_ix (n := H) (by omega)).mp ⟨h1, h2⟩
    obtain ⟨i, hi, rfl⟩ := (ni_ix (n := P) (by omega)).mp ⟨h4, nt_le.mpr h3⟩
    refine ⟨s0, _, r1, by rw [s2], ?_, ?_⟩
    · rw [s2, ni_12]; exact vp_in_nI (by omega) (by decide)
    · rw [nI_clamp (by omega), nI_clamp (by omega)] at hq
      rw [ni_12, nI_clamp (by omega), ev i j hi hj]
      exact hq
  · rw [e2] at h3; rw [if_pos (Or.inr (Or.inr (nt_lt.mp h3)))] at hq; exact hq
theorem c_poorest (hC : co_at h c P H hv vl) (hq : Ret (some (.int (sp_po P hv))) h) : mX0_poorest g [.ref c] h Ret := by
  obtain ⟨⟨s0, r0, -, s1, -⟩, ⟨hP, -⟩, e2, -, eh, -⟩ := hC
  unfold sp_po at hq
  refine uX0_poorest (fun A hA => vX0_poorest_0 hA ⟨s0, fun h1 => ?_, fun h1 => ?_⟩)
  · rw [e2] at h1
    have hP0 : 0 < P := Nat.pos_of_ne_zero (fun z => h1 (by rw [z]; rfl))
    rw [if_neg (by omega)] at hq
    have key : ∀ n i : Nat, i + 1 + n = P → A (15, [some (.ref c), some (.int (nI (poo hv i))), some (.int (nI (i + 1)))], [], h, 0, 0) := by
      intro n
      induction n with
      | zero =>
        intro i hi
        refine vX0_poorest_15 hA ⟨s0, fun _ => ?_, fun q => ?_⟩
        · rw [show P - 1 = i by omega] at hq; exact hq
        · rw [e2] at q; exact absurd (nI_le (by omega) (by omega)) q
      | succ n ih =>
        intro i hi
        have hb := poo_le hv i
        refine vX0_poorest_15 hA ⟨s0, fun q => ?_, fun _ => ⟨s0, _, r0, by rw [s1], ?_, s0, _, r0, by rw [s1], ?_, fun q => ?_, fun q => ?_⟩⟩
        · rw [e2] at q; exact absurd q (nI_ge (by omega) (by omega))
        · rw [s1]; exact vp_in_nI (by omega) (by decide)
        · rw [s1]; exact vp_in_nI (by omega) (by decide)
        · rw [nI_clamp (by omega), nI_clamp (by omega), eh _ (by omega), eh _ (by omega)] at q
          have := ih (i + 1) (by omega)
          rw [show poo hv (i + 1) = poo hv i from if_neg (nt_lt.mpr q)] at this
          rw [← nI_succ]
          exact this
        · rw [nI_clamp (by omega), nI_clamp (by omega), eh _ (by omega), eh _ (by omega)] at q
          have := ih (i + 1) (by omega)
          rw [show poo hv (i + 1) = i + 1 from if_pos (nt_le.mp q)] at this
          rw [← nI_succ]
          exact this
    exact key (P - 1) 0 (by omega)
  · rw [e2] at h1
    have hP0 : P = 0 := by
      rcases Nat.eq_zero_or_pos P with z | z
      · exact z
      · exact absurd h1 (nI_ne0 z (by omega))
    rw [if_pos hP0] at hq
    refine vX0_poorest_15 hA ⟨s0, fun _ => hq, fun q => ?_⟩
    rw [e2, hP0] at q
    exact absurd (by decide) q
theorem c_live {y : Int32} (hC : co_at h c P H hv vl) (hq : ∀ h', ax_same (fun a => a = c + 1) h h' → co_at h' c P H (fun p => hv p + sp_br P H vl (nI p) y) vl → Ret none h') : mX0_live g [.ref c, .int y] h Ret := by
  have hP := hC.2.1.1
  have hH := hC.2.1.2
  refine uX0_live (fun A hA => vX0_live_0 hA ?_)
  have key : ∀ n i : Nat, ∀ hh : ax_H, i + n = P → ax_same (fun a => a = c + 1) h hh → co_at hh c P H (fun p => if p < i then hv p + sp_br P H vl (nI p) y else hv p) vl → A (2, [some (.ref c), some (.int y), some (.int (nI i))], [], hh, 0, 0) := by
    intro n
    induction n with
    | zero =>
      intro i hh hi hs hc
      refine vX0_live_2 hA ⟨hc.1.1, fun _ => hq hh hs ⟨hc.1, hc.2.1, hc.2.2.1, hc.2.2.2.1, fun p hp => ?_, hc.2.2.2.2.2⟩, fun q => ?_⟩
      · rw [hc.2.2.2.2.1 p hp]; dsimp only; rw [if_pos (by omega)]
      · rw [hc.2.2.1] at q; exact absurd (nI_le (by omega) (by omega)) q
    | succ n ih =>
      intro i hh hi hs hc
      obtain ⟨s0, r0, -, s1, -⟩ := hc.1
      refine vX0_live_2 hA ⟨s0, fun q => ?_, fun _ => ⟨s0, _, r0, ⟨rfl, rfl⟩, by rw [s1], by rw [s1]; exact vp_in_nI (by omega) (by decide), s0, c_brings hc ⟨_, rfl, by rw [s1], by rw [s1]; exact vp_in_nI (by omega) (by decide), ?_⟩⟩⟩
      · rw [hc.2.2.1] at q; exact absurd q (nI_ge (by omega) (by omega))
      · intro h5
        have hs5 : ax_same (fun a => a = c + 1) hh h5 := sm_pi rfl
        have := ih (i + 1) h5 (by omega) (sm_tr hs hs5) ⟨co_st_same hs5 hc.1, hc.2.1, by rw [(hs5.2.2.2 c (by omega)).1]; exact hc.2.2.1, by rw [(hs5.2.2.2 c (by omega)).1]; exact hc.2.2.2.1, fun p hp => ?_, fun p q hp hq' => by rw [(hs5.2.2.2 (c + 2) (by omega)).1]; exact hc.2.2.2.2.2 p q hp hq'⟩
        · rw [nI_succ] at this; exact this
        · show ax_i (ax_pi hh (c + 1) (nI i).toNatClampNeg _) (c + 1) p = _
          rw [ai_pi, nI_clamp (by omega), hc.2.2.2.2.1 i (by omega)]
          dsimp only
          rw [if_neg (Nat.lt_irrefl i)]
          by_cases e : p = i
          · subst e
            rw [if_pos ⟨rfl, rfl⟩, if_pos (Nat.lt_succ_self _)]
          · rw [if_neg (fun z => e z.2), hc.2.2.2.2.1 p hp]
            dsimp only
            by_cases e2 : p < i
            · rw [if_pos e2, if_pos (by omega)]
            · rw [if_neg e2, if_neg (by omega)]
  exact key P 0 h (by omega) sm_rf ⟨hC.1, hC.2.1, hC.2.2.1, hC.2.2.2.1, fun p hp => by dsimp only; rw [if_neg (Nat.not_lt_zero p)]; exact hC.2.2.2.2.1 p hp, hC.2.2.2.2.2⟩
theorem c_unlive {y : Int32} (hC : co_at h c P H hv vl) (hq : ∀ h', ax_same (fun a => a = c + 1) h h' → co_at h' c P H (fun p => hv p - sp_br P H vl (nI p) y) vl → Ret none h') : mX0_unlive g [.ref c, .int y] h Ret := by
  have hP := hC.2.1.1
  have hH := hC.2.1.2
  refine uX0_unlive (fun A hA => vX0_unlive_0 hA ?_)
  have key : ∀ n i : Nat, ∀ hh : ax_H, i + n = P → ax_same (fun a => a = c + 1) h hh → co_at hh c P H (fun p => if p < i then hv p - sp_br P H vl (nI p) y else hv p) vl → A (2, [some (.ref c), some (.int y), some (.int (nI i))], [], hh, 0, 0) := by
    intro n
    induction n with
    | zero =>
      intro i hh hi hs hc
      refine vX0_unlive_2 hA ⟨hc.1.1, fun _ => hq hh hs ⟨hc.1, hc.2.1, hc.2.2.1, hc.2.2.2.1, fun p hp => ?_, hc.2.2.2.2.2⟩, fun q => ?_⟩
      · rw [hc.2.2.2.2.1 p hp]; dsimp only; rw [if_pos (by omega)]
      · rw [hc.2.2.1] at q; exact absurd (nI_le (by omega) (by omega)) q
    | succ n ih =>
      intro i hh hi hs hc
      obtain ⟨s0, r0, -, s1, -⟩ := hc.1
      refine vX0_unlive_2 hA ⟨s0, fun q => ?_, fun _ => ⟨s0, _, r0, ⟨rfl, rfl⟩, by rw [s1], by rw [s1]; exact vp_in_nI (by omega) (by decide), s0, c_brings hc ⟨_, rfl, by rw [s1], by rw [s1]; exact vp_in_nI (by omega) (by decide), ?_⟩⟩⟩
      · rw [hc.2.2.1] at q; exact absurd q (nI_ge (by omega) (by omega))
      · intro h5
        have hs5 : ax_same (fun a => a = c + 1) hh h5 := sm_pi rfl
        have := ih (i + 1) h5 (by omega) (sm_tr hs hs5) ⟨co_st_same hs5 hc.1, hc.2.1, by rw [(hs5.2.2.2 c (by omega)).1]; exact hc.2.2.1, by rw [(hs5.2.2.2 c (by omega)).1]; exact hc.2.2.2.1, fun p hp => ?_, fun p q hp hq' => by rw [(hs5.2.2.2 (c + 2) (by omega)).1]; exact hc.2.2.2.2.2 p q hp hq'⟩
        · rw [nI_succ] at this; exact this
        · show ax_i (ax_pi hh (c + 1) (nI i).toNatClampNeg _) (c + 1) p = _
          rw [ai_pi, nI_clamp (by omega), hc.2.2.2.2.1 i (by omega)]
          dsimp only
          rw [if_neg (Nat.lt_irrefl i)]
          by_cases e : p = i
          · subst e
            rw [if_pos ⟨rfl, rfl⟩, if_pos (Nat.lt_succ_self _)]
          · rw [if_neg (fun z => e z.2), hc.2.2.2.2.1 p hp]
            dsimp only
            by_cases e2 : p < i
            · rw [if_pos e2, if_pos (by omega)]
            · rw [if_neg e2, if_neg (by omega)]
  exact key P 0 h (by omega) sm_rf ⟨hC.1, hC.2.1, hC.2.2.1, hC.2.2.2.1, fun p hp => by dsimp only; rw [if_neg (Nat.not_lt_zero p)]; exact hC.2.2.2.2.1 p hp, hC.2.2.2.2.2⟩
end
