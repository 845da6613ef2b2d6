section
/-! A republic: hours, people, purses, worths, modes, deeds, lots -/
abbrev rD : Type := Nat × Nat × (Nat → Int32) × (Nat → Int32) × (Nat → Int32) × (Nat → Nat → Int32) × (Nat → Nat → Int32)
def dH (D : rD) : Nat := D.1
def dP (D : rD) : Nat := D.2.1
def dpu (D : rD) : Nat → Int32 := D.2.2.1
def dwo (D : rD) : Nat → Int32 := D.2.2.2.1
def dmo (D : rD) : Nat → Int32 := D.2.2.2.2.1
def dde (D : rD) : Nat → Nat → Int32 := D.2.2.2.2.2.1
def dlo (D : rD) : Nat → Nat → Int32 := D.2.2.2.2.2.2
def rd_ok (D : rD) : Prop := (2 ≤ dH D ∧ dH D ≤ 12) ∧ dP D ≤ 6 ∧ (∀ k, k < 6 → -99 ≤ (dwo D k).toInt ∧ (dwo D k).toInt ≤ 99) ∧ (∀ k, k < 6 → dmo D k = 0 ∨ dmo D k = 1 ∨ dmo D k = 2) ∧ (∀ p, p < dP D → 0 ≤ (dpu D p).toInt ∧ (dpu D p).toInt ≤ 999) ∧ (∀ p q, p < dP D → q < dH D → dde D p q = -1 ∨ ∃ k : Nat, k < 6 ∧ dde D p q = nI k) ∧ (∀ p q, p < dP D → q < dH D → 0 ≤ (dlo D p q).toInt ∧ (dlo D p q).toInt ≤ 9)
/-- the class's republic at place r: where its rows lie -/
def rc_st (h : ax_H) (r : Nat) : Prop := (ax_s h r).1 = 6 ∧ (ax_r h r 0 = some (r + 1) ∧ ax_r h r 1 = some (r + 2) ∧ ax_r h r 2 = some (r + 3) ∧ ax_r h r 3 = some (r + 4) ∧ ax_r h r 4 = some (r + 5)) ∧ ax_s h (r + 1) = (11, 6) ∧ ax_s h (r + 2) = (11, 6) ∧ ax_s h (r + 3) = (11, 6) ∧ ax_s h (r + 4) = (11, 72) ∧ ax_s h (r + 5) = (11, 72)
def rc_at (h : ax_H) (r : Nat) (D : rD) : Prop := rc_st h r ∧ (dH D ≤ 12 ∧ dP D ≤ 6) ∧ (ax_i h r 5 = nI (dH D) ∧ ax_i h r 6 = nI (dP D)) ∧ (∀ k, k < 6 → ax_i h (r + 1) k = dwo D k) ∧ (∀ k, k < 6 → ax_i h (r + 2) k = dmo D k) ∧ (∀ p, p < dP D → ax_i h (r + 3) p = dpu D p) ∧ (∀ p q, p < dP D → q < dH D → ax_i h (r + 4) (p * 12 + q) = dde D p q) ∧ ∀ p q, p < dP D → q < dH D → ax_i h (r + 5) (p * 12 + q) = dlo D p q
theorem rc_st_same {F : Nat → Prop} {h h' : ax_H} {r : Nat} (hs : ax_same F h h') (a : rc_st h r) : rc_st h' r := by
  obtain ⟨-, s, f, -⟩ := hs
  obtain ⟨a1, ⟨b1, b2, b3, b4, b5⟩, c1, c2, c3, c4, c5⟩ := a
  exact ⟨by rw [s]; exact a1, ⟨by rw [f]; exact b1, by rw [f]; exact b2, by rw [f]; exact b3, by rw [f]; exact b4, by rw [f]; exact b5⟩, by rw [s]; exact c1, by rw [s]; exact c2, by rw [s]; exact c3, by rw [s]; exact c4, by rw [s]; exact c5⟩
theorem rc_at_same {F : Nat → Prop} {h h' : ax_H} {r : Nat} {D : rD} (hs : ax_same F h h') (hF : ∀ j, j < 6 → ¬ F (r + j)) (a : rc_at h r D) : rc_at h' r D := by
  obtain ⟨a1, a2, a3, a4, a5, a6, a7, a8⟩ := a
  have e : ∀ j, j < 6 → ∀ k, ax_i h' (r + j) k = ax_i h (r + j) k := fun j hj => (hs.2.2.2 _ (hF j hj)).1
  have e0 : ∀ k, ax_i h' r k = ax_i h r k := e 0 (by decide)
  exact ⟨rc_st_same hs a1, a2, ⟨by rw [e0]; exact a3.1, by rw [e0]; exact a3.2⟩, fun k hk => by rw [e 1 (by decide)]; exact a4 k hk, fun k hk => by rw [e 2 (by decide)]; exact a5 k hk, fun k hk => by rw [e 3 (by decide)]; exact a6 k hk, fun p q hp hq => by rw [e 4 (by decide)]; exact a7 p q hp hq, fun p q hp hq => by rw [e 5 (by decide)]; exact a8 p q hp hq⟩
/-! what its methods answer -/
def sp_in (x : Int32) (n : Nat) : Bool := decide (0 ≤ x ∧ x < nI n)
def b2i (b : Bool) : Int32 := if b then 1 else 0
def sp_wo (D : rD) (k : Int32) : Int32 := if k < 0 ∨ 6 ≤ k then 0 else dwo D k.toNatClampNeg
def sp_mo (D : rD) (k : Int32) : Int32 := if k < 0 ∨ 6 ≤ k then 1 else dmo D k.toNatClampNeg
def sp_xb (D : rD) (k m : Int32) : Int32 := if m = 0 then sp_wo D k else if m = 2 then -(sp_wo D k) else 0
def sp_ex (D : rD) (k : Int32) : Int32 := sp_xb D k (sp_mo D k)
def sp_de (D : rD) (p q : Int32) : Int32 := if sp_in p (dP D) && sp_in q (dH D) then dde D p.toNatClampNeg q.toNatClampNeg else -1
def sp_lo (D : rD) (p q : Int32) : Int32 := if sp_in p (dP D) && sp_in q (dH D) then dlo D p.toNatClampNeg q.toNatClampNeg else 0
def sp_wd (D : rD) (p : Int32) : Int32 := sumN (fun q => sp_wo D (sp_de D p (nI q))) (dH D)
theorem nt_lt {a b : Int32} : ¬ a < b ↔ b ≤ a := Int32.not_lt
theorem nt_le {a b : Int32} : ¬ a ≤ b ↔ b < a := Int32.not_le
variable {g : ax_G} {Ret : Option Value → ax_H → Prop} {h : ax_H} {r : Nat} {D : rD}
theorem c_hasHour {x : Int32} (hD : rc_at h r D) (hq : Ret (some (.int (b2i (sp_in x (dH D))))) h) : mX6_hasHour g [.ref r, .int x] h Ret := by
  have e := hD.2.2.1.1
  unfold sp_in b2i at hq
  refine eX6_hasHour ⟨fun h1 => ⟨Or.inl rfl, ?_⟩, fun h1 => ⟨hD.1.1, fun h2 => ⟨Or.inl rfl, ?_⟩, fun h2 => ⟨Or.inr rfl, ?_⟩⟩⟩
  · rw [show decide (0 ≤ x ∧ x < nI (dH D)) = false from decide_eq_false (fun q => absurd h1 (nt_lt.mpr q.1))] at hq
    exact hq
  · rw [e] at h2
    rw [show decide (0 ≤ x ∧ x < nI (dH D)) = false from decide_eq_false (fun q => absurd q.2 (nt_lt.mpr h2))] at hq
    exact hq
  · rw [e] at h2
    rw [show decide (0 ≤ x ∧ x < nI (dH D)) = true from decide_eq_true ⟨nt_lt.mp h1, nt_le.mp h2⟩] at hq
    exact hq
theorem c_hasPerson {x : Int32} (hD : rc_at h r D) (hq : Ret (some (.int (b2i (sp_in x (dP D))))) h) : mX6_hasPerson g [.ref r, .int x] h Ret := by
  have e := hD.2.2.1.2
  unfold sp_in b2i at hq
  refine eX6_hasPerson ⟨fun h1 => ⟨Or.inl rfl, ?_⟩, fun h1 => ⟨hD.1.1, fun h2 => ⟨Or.inl rfl, ?_⟩, fun h2 => ⟨Or.inr rfl, ?_⟩⟩⟩
  · rw [show decide (0 ≤ x ∧ x < nI (dP D)) = false from decide_eq_false (fun q => absurd h1 (nt_lt.mpr q.1))] at hq
    exact hq
  · rw [e] at h2
    rw [show decide (0 ≤ x ∧ x < nI (dP D)) = false from decide_eq_false (fun q => absurd q.2 (nt_lt.mpr h2))] at hq
    exact hq
  · rw [e] at h2
    rw [show decide (0 ≤ x ∧ x < nI (dP D)) = true from decide_eq_true ⟨nt_lt.mp h1, nt_le.mp h2⟩] at hq
    exact hq
theorem b2i_0 {b : Bool} : b2i b = 0 ↔ b = false := by cases b <;> decide
theorem b2i_n0 {b : Bool} : ¬ b2i b = 0 ↔ b = true := by cases b <;> decide
theorem sp_in_ix {x : Int32} {n : Nat} (hn : n < 2 ^ 31) (h : sp_in x n = true) : ∃ j, j < n ∧ x = nI j := by
  have := of_decide_eq_true h
  exact (ni_ix hn).mp ⟨nt_lt.mpr this.1, nt_le.mpr this.2⟩
theorem sp_in_nI {j n : Nat} (hn : n < 2 ^ 31) (h : j < n) : sp_in (nI j) n = true := decide_eq_true ⟨nI_pos' (by omega), nI_lt h hn⟩
theorem c_hasPersonOrAll {x : Int32} (hD : rc_at h r D) (hq : Ret (some (.int (b2i (decide (x = -1) || sp_in x (dP D))))) h) : mX6_hasPersonOrAll g [.ref r, .int x] h Ret := by
  refine eX6_hasPersonOrAll ⟨fun h1 => ?_, fun h1 => ?_⟩
  · subst h1
    exact ⟨Or.inr rfl, hq⟩
  · refine ⟨hD.1.1, c_hasPerson hD ⟨_, rfl, fun h2 => ⟨Or.inl rfl, ?_⟩, fun h2 => ⟨Or.inr rfl, ?_⟩⟩⟩
    · rw [b2i_0] at h2
      rw [h2, decide_eq_false h1] at hq
      exact hq
    · rw [b2i_n0] at h2
      rw [h2, decide_eq_false h1] at hq
      exact hq
theorem c_deedAt {x y : Int32} (hD : rc_at h r D) (hq : Ret (some (.int (sp_de D x y))) h) : mX6_deedAt g [.ref r, .int x, .int y] h Ret := by
  unfold sp_de at hq
  refine eX6_deedAt ⟨hD.1.1, c_hasPerson hD ⟨_, rfl, fun h1 => ?_, fun h1 => ⟨hD.1.1, c_hasHour hD ⟨_, rfl, fun h2 => ?_, fun h2 => ?_⟩⟩⟩⟩
  · rw [b2i_0] at h1
    rw [h1] at hq
    exact hq
  · rw [b2i_0] at h2
    rw [h2, Bool.and_false] at hq
    exact hq
  · rw [b2i_n0] at h1 h2
    rw [h1, h2] at hq
    obtain ⟨p, hp, rfl⟩ := sp_in_ix (by have := hD.2.1.2; omega) h1
    obtain ⟨q, hq', rfl⟩ := sp_in_ix (by have := hD.2.1.1; omega) h2
    have hb := hD.2.1
    obtain ⟨-, ⟨-, -, -, e3, -⟩, -, -, -, e4, -⟩ := hD.1
    refine ⟨hD.1.1, _, e3, by rw [e4], ?_, ?_⟩
    · rw [e4, ni_12]
      exact vp_in_nI (by omega) (by decide)
    · rw [ni_12, nI_clamp (by omega), hD.2.2.2.2.2.2.1 p q hp hq']
      rw [nI_clamp (by omega), nI_clamp (by omega)] at hq
      exact hq
theorem c_lotAt {x y : Int32} (hD : rc_at h r D) (hq : Ret (some (.int (sp_lo D x y))) h) : mX6_lotAt g [.ref r, .int x, .int y] h Ret := by
  unfold sp_lo at hq
  refine eX6_lotAt ⟨hD.1.1, c_hasPerson hD ⟨_, rfl, fun h1 => ?_, fun h1 => ⟨hD.1.1, c_hasHour hD ⟨_, rfl, fun h2 => ?_, fun h2 => ?_⟩⟩⟩⟩
  · rw [b2i_0] at h1
    rw [h1] at hq
    exact hq
  · rw [b2i_0] at h2
    rw [h2, Bool.and_false] at hq
    exact hq
  · rw [b2i_n0] at h1 h2
    rw [h1, h2] at hq
    obtain ⟨p, hp, rfl⟩ := sp_in_ix (by have := hD.2.1.2; omega) h1
    obtain ⟨q, hq', rfl⟩ := sp_in_ix (by have := hD.2.1.1; omega) h2
    have hb := hD.2.1
    obtain ⟨-, ⟨-, -, -, -, e3⟩, -, -, -, -, e4⟩ := hD.1
    refine ⟨hD.1.1, _, e3, by rw [e4], ?_, ?_⟩
    · rw [e4, ni_12]
      exact vp_in_nI (by omega) (by decide)
    · rw [ni_12, nI_clamp (by omega), hD.2.2.2.2.2.2.2 p q hp hq']
      rw [nI_clamp (by omega), nI_clamp (by omega)] at hq
      exact hq
theorem c_worthOf {x : Int32} (hD : rc_at h r D) (hq : Ret (some (.int (sp_wo D x))) h) : mX6_worthOf g [.ref r, .int x] h Ret := by
  unfold sp_wo at hq
  obtain ⟨e0, ⟨e3, -, -, -, -⟩, e4, -, -, -, -⟩ := hD.1
  refine eX6_worthOf ⟨fun h1 => ?_, fun h1 => ⟨fun h2 => ?_, fun h2 => ?_⟩⟩
  · rw [if_pos (Or.inl h1)] at hq; exact hq
  · rw [if_neg (fun q => q.elim h1 (nt_le.mpr h2))] at hq
    obtain ⟨j, hj, rfl⟩ := (ni_ix (n := 6) (by decide)).mp ⟨h1, nt_le.mpr h2⟩
    refine ⟨e0, _, e3, by rw [e4], by rw [e4]; exact vp_in_nI hj (by decide), ?_⟩
    rw [nI_clamp (by omega)] at hq ⊢
    rw [hD.2.2.2.1 j hj]
    exact hq
  · rw [if_pos (Or.inr (nt_lt.mp h2))] at hq; exact hq
theorem c_modeOf {x : Int32} (hD : rc_at h r D) (hq : Ret (some (.int (sp_mo D x))) h) : mX6_modeOf g [.ref r, .int x] h Ret := by
  unfold sp_mo at hq
  obtain ⟨e0, ⟨-, e3, -, -, -⟩, -, e4, -, -, -⟩ := hD.1
  refine eX6_modeOf ⟨fun h1 => ?_, fun h1 => ⟨fun h2 => ?_, fun h2 => ?_⟩⟩
  · rw [if_pos (Or.inl h1)] at hq; exact hq
  · rw [if_neg (fun q => q.elim h1 (nt_le.mpr h2))] at hq
    obtain ⟨j, hj, rfl⟩ := (ni_ix (n := 6) (by decide)).mp ⟨h1, nt_le.mpr h2⟩
    refine ⟨e0, _, e3, by rw [e4], by rw [e4]; exact vp_in_nI hj (by decide), ?_⟩
    rw [nI_clamp (by omega)] at hq ⊢
    rw [hD.2.2.2.2.1 j hj]
    exact hq
  · rw [if_pos (Or.inr (nt_lt.mp h2))] at hq; exact hq
theorem c_extraBy {x y : Int32} (hD : rc_at h r D) (hq : Ret (some (.int (sp_xb D x y))) h) : mX6_extraBy g [.ref r, .int x, .int y] h Ret := by
  unfold sp_xb at hq
  refine eX6_extraBy ⟨fun h1 => ⟨hD.1.1, c_worthOf hD ⟨_, rfl, ?_⟩⟩, fun h1 => ⟨fun h2 => ⟨hD.1.1, c_worthOf hD ⟨_, rfl, ?_⟩⟩, fun h2 => ?_⟩⟩
  · rw [if_pos h1] at hq; exact hq
  · rw [if_neg h1, if_pos h2] at hq; exact hq
  · rw [if_neg h1, if_neg h2] at hq; exact hq
theorem c_extraOf {x : Int32} (hD : rc_at h r D) (hq : Ret (some (.int (sp_ex D x))) h) : mX6_extraOf g [.ref r, .int x] h Ret :=
  eX6_extraOf ⟨hD.1.1, c_modeOf hD ⟨_, rfl, hD.1.1, c_extraBy hD ⟨_, rfl, hq⟩⟩⟩
theorem c_worthOfDeeds {x : Int32} (hD : rc_at h r D) (hq : Ret (some (.int (sp_wd D x))) h) : mX6_worthOfDeeds g [.ref r, .int x] h Ret := by
  refine uX6_worthOfDeeds (fun A hA => vX6_worthOfDeeds_0 hA ?_)
  have hH := hD.2.1.1
  have key : ∀ n i : Nat, i + n = dH D → A (4, [some (.ref r), some (.int x), some (.int (sumN (fun q => sp_wo D (sp_de D x (nI q))) i)), some (.int (nI i))], [], h, 0, 0) := by
    intro n
    induction n with
    | zero =>
      intro i hi
      refine vX6_worthOfDeeds_4 hA ⟨hD.1.1, fun _ => ?_, fun h1 => ?_⟩
      · rw [show i = dH D by omega]; exact hq
      · rw [hD.2.2.1.1] at h1
        exact absurd (nI_le (by omega) (by omega)) h1
    | succ n ih =>
      intro i hi
      refine vX6_worthOfDeeds_4 hA ⟨hD.1.1, fun h1 => ?_, fun _ => ⟨hD.1.1, c_deedAt hD ⟨_, rfl, hD.1.1, c_worthOf hD ⟨_, rfl, ?_⟩⟩⟩⟩
      · rw [hD.2.2.1.1] at h1
        exact absurd h1 (nI_ge (by omega) (by omega))
      · have := ih (i + 1) (by omega)
        rw [nI_succ] at this
        exact this
  exact key (dH D) 0 (by omega)
end
