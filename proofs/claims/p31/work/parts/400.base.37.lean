section
section
/-! the abstract heap: what a write leaves -/
theorem as_pi {h : ax_H} {a k b : Nat} {v : Int32} : ax_s (ax_pi h a k v) b = ax_s h b := rfl
theorem as_pl {h : ax_H} {a k b : Nat} {v : Int64} : ax_s (ax_pl h a k v) b = ax_s h b := rfl
theorem as_pr {h : ax_H} {a k b : Nat} {v : Option Nat} : ax_s (ax_pr h a k v) b = ax_s h b := rfl
theorem as_row {h : ax_H} {a b : Nat} {f : Nat → Int32} : ax_s (ax_row h a f) b = ax_s h b := rfl
theorem ar_pi {h : ax_H} {a k b j : Nat} {v : Int32} : ax_r (ax_pi h a k v) b j = ax_r h b j := rfl
theorem ar_pl {h : ax_H} {a k b j : Nat} {v : Int64} : ax_r (ax_pl h a k v) b j = ax_r h b j := rfl
theorem ar_row {h : ax_H} {a b j : Nat} {f : Nat → Int32} : ax_r (ax_row h a f) b j = ax_r h b j := rfl
theorem al_pi {h : ax_H} {a k b j : Nat} {v : Int32} : ax_l (ax_pi h a k v) b j = ax_l h b j := rfl
theorem al_pr {h : ax_H} {a k b j : Nat} {v : Option Nat} : ax_l (ax_pr h a k v) b j = ax_l h b j := rfl
theorem al_row {h : ax_H} {a b j : Nat} {f : Nat → Int32} : ax_l (ax_row h a f) b j = ax_l h b j := rfl
theorem ai_pl {h : ax_H} {a k b j : Nat} {v : Int64} : ax_i (ax_pl h a k v) b j = ax_i h b j := rfl
theorem ai_pr {h : ax_H} {a k b j : Nat} {v : Option Nat} : ax_i (ax_pr h a k v) b j = ax_i h b j := rfl
theorem ai_pi {h : ax_H} {a k b j : Nat} {v : Int32} : ax_i (ax_pi h a k v) b j = if b = a ∧ j = k then v else ax_i h b j := by
  show ax_u h.2.2.1 a k v b j = _
  unfold ax_u
  by_cases h1 : b = a
  · subst h1
    rw [if_pos rfl]
    by_cases h2 : j = k
    · rw [if_pos h2, if_pos ⟨rfl, h2⟩]
    · rw [if_neg h2, if_neg (fun q => h2 q.2)]; rfl
  · rw [if_neg h1, if_neg (fun q => h1 q.1)]; rfl
theorem al_pl {h : ax_H} {a k b j : Nat} {v : Int64} : ax_l (ax_pl h a k v) b j = if b = a ∧ j = k then v else ax_l h b j := by
  show ax_u h.2.2.2.1 a k v b j = _
  unfold ax_u
  by_cases h1 : b = a
  · subst h1
    rw [if_pos rfl]
    by_cases h2 : j = k
    · rw [if_pos h2, if_pos ⟨rfl, h2⟩]
    · rw [if_neg h2, if_neg (fun q => h2 q.2)]; rfl
  · rw [if_neg h1, if_neg (fun q => h1 q.1)]; rfl
theorem ar_pr {h : ax_H} {a k b j : Nat} {v : Option Nat} : ax_r (ax_pr h a k v) b j = if b = a ∧ j = k then v else ax_r h b j := by
  show ax_u h.2.2.2.2 a k v b j = _
  unfold ax_u
  by_cases h1 : b = a
  · subst h1
    rw [if_pos rfl]
    by_cases h2 : j = k
    · rw [if_pos h2, if_pos ⟨rfl, h2⟩]
    · rw [if_neg h2, if_neg (fun q => h2 q.2)]; rfl
  · rw [if_neg h1, if_neg (fun q => h1 q.1)]; rfl
theorem ai_row {h : ax_H} {a b j : Nat} {f : Nat → Int32} : ax_i (ax_row h a f) b j = if b = a then f j else ax_i h b j := by
  show (if b = a then f else h.2.2.1 b) j = _
  by_cases h1 : b = a
  · rw [if_pos h1, if_pos h1]
  · rw [if_neg h1, if_neg h1]; rfl
/-- nothing changed but ints and longs of the cells that F names -/
def ax_same (F : Nat → Prop) (h h' : ax_H) : Prop := h'.1 = h.1 ∧ (∀ a, ax_s h' a = ax_s h a) ∧ (∀ a k, ax_r h' a k = ax_r h a k) ∧ ∀ a, ¬ F a → (∀ k, ax_i h' a k = ax_i h a k) ∧ ∀ k, ax_l h' a k = ax_l h a k
theorem sm_rf {F : Nat → Prop} {h : ax_H} : ax_same F h h := ⟨rfl, fun _ => rfl, fun _ _ => rfl, fun _ _ => ⟨fun _ => rfl, fun _ => rfl⟩⟩
theorem sm_tr {F : Nat → Prop} {h h1 h2 : ax_H} (a : ax_same F h h1) (b : ax_same F h1 h2) : ax_same F h h2 := ⟨b.1.trans a.1, fun x => (b.2.1 x).trans (a.2.1 x), fun x k => (b.2.2.1 x k).trans (a.2.2.1 x k), fun x hx => ⟨fun k => ((b.2.2.2 x hx).1 k).trans ((a.2.2.2 x hx).1 k), fun k => ((b.2.2.2 x hx).2 k).trans ((a.2.2.2 x hx).2 k)⟩⟩
theorem sm_mono {F G : Nat → Prop} {h h1 : ax_H} (a : ax_same F h h1) (i : ∀ x, F x → G x) : ax_same G h h1 := ⟨a.1, a.2.1, a.2.2.1, fun x hx => a.2.2.2 x (fun q => hx (i x q))⟩
theorem sm_pi {F : Nat → Prop} {h : ax_H} {a k : Nat} {v : Int32} (hF : F a) : ax_same F h (ax_pi h a k v) := ⟨rfl, fun _ => rfl, fun _ _ => rfl, fun x hx => ⟨fun j => by rw [ai_pi, if_neg (fun (q : x = a ∧ j = k) => hx (q.1.symm ▸ hF))], fun _ => rfl⟩⟩
theorem sm_pl {F : Nat → Prop} {h : ax_H} {a k : Nat} {v : Int64} (hF : F a) : ax_same F h (ax_pl h a k v) := ⟨rfl, fun _ => rfl, fun _ _ => rfl, fun x hx => ⟨fun _ => rfl, fun j => by rw [al_pl, if_neg (fun (q : x = a ∧ j = k) => hx (q.1.symm ▸ hF))]⟩⟩
theorem sm_row {F : Nat → Prop} {h : ax_H} {a : Nat} {f : Nat → Int32} (hF : F a) : ax_same F h (ax_row h a f) := ⟨rfl, fun _ => rfl, fun _ _ => rfl, fun x hx => ⟨fun j => by rw [ai_row, if_neg (fun (q : x = a) => hx (q.symm ▸ hF))], fun _ => rfl⟩⟩
/-! sums -/
def sumN (f : Nat → Int32) : Nat → Int32
  | 0 => 0
  | n + 1 => sumN f n + f n
def sumL (f : Nat → Int64) : Nat → Int64
  | 0 => 0
  | n + 1 => sumL f n + f n
theorem sumN_congr {f g : Nat → Int32} : ∀ {n : Nat}, (∀ i, i < n → f i = g i) → sumN f n = sumN g n
  | 0, _ => rfl
  | n + 1, h => by show sumN f n + f n = sumN g n + g n; rw [sumN_congr (fun i hi => h i (Nat.lt_succ_of_lt hi)), h n (Nat.lt_succ_self n)]
theorem sumL_congr {f g : Nat → Int64} : ∀ {n : Nat}, (∀ i, i < n → f i = g i) → sumL f n = sumL g n
  | 0, _ => rfl
  | n + 1, h => by show sumL f n + f n = sumL g n + g n; rw [sumL_congr (fun i hi => h i (Nat.lt_succ_of_lt hi)), h n (Nat.lt_succ_self n)]
/-! numbers -/
theorem ni_ix {x : Int32} {n : Nat} (hn : n < 2 ^ 31) : (¬ x < 0 ∧ ¬ nI n ≤ x) ↔ ∃ j : Nat, j < n ∧ x = nI j := by
  constructor
  · rintro ⟨h1, h2⟩
    rcases pk_ix x hn with h | h | h
    · exact absurd h h1
    · exact absurd h h2
    · exact h
  · rintro ⟨j, hj, rfl⟩
    exact ⟨nI_pos (by omega), fun q => absurd ((nI_leI hn (by omega)).mp q) (by omega)⟩
theorem ni_12 {p q : Nat} : nI p * 12 + nI q = nI (p * 12 + q) := by
  rw [show (12 : Int32) = nI 12 from rfl, pk_mul, nI_add]
end
end

section
section
/-! A republic: hours, people, purses, worths, modes, deeds, lots -/
abbrev rD : Type := Nat × Nat × (Nat → Int32) × (Nat → Int32) × (Nat → Int32) × (Nat → Nat → Int32) × (Nat → Nat → Int32)
def dH (D : rD) : Nat := D.1
def dP (D : rD) : Nat := D.2.1
def dpu (D : rD) : Nat → Int32 := D.2.2.1
def dwo (D : rD) : Nat → Int32 := D.2.2.2.1
def dmo (D : rD) : Nat → Int32 := D.2.2.2.2.1
def dde (D : rD) : Nat → Nat → Int32 := D.2.2.2.2.2.1
def dlo (D : rD) : Nat → Nat → Int32 := D.2.2.2.2.2.2
def rd_ok (D : rD) : Prop := (2 ≤ dH D ∧ dH D ≤ 12) ∧ dP D ≤ 6 ∧ (∀ k, k < 6 → -99 ≤ (dwo D k).toInt ∧ (dwo D k).toInt ≤ 99) ∧ (∀ k, k < 6 → dmo D k = 0 ∨ dmo D k = 1 ∨ dmo D k = 2) ∧ (∀ p, p < dP D → 0 ≤ (dpu D p).toInt ∧ (dpu D p).toInt ≤ 999) ∧ (∀ p q, p < dP D → q < dH D → dde D p q = -1 ∨ ∃ k : Nat, k < 6 ∧ dde D p q = nI k) ∧ (∀ p q, p < dP D → q < dH D → 0 ≤ (dlo D p q).toInt ∧ (dlo D p q).toInt ≤ 9)
/-- the class's republic at place r: where its rows lie -/
def rc_st (h : ax_H) (r : Nat) : Prop := (ax_s h r).1 = 6 ∧ (ax_r h r 0 = some (r + 1) ∧ ax_r h r 1 = some (r + 2) ∧ ax_r h r 2 = some (r + 3) ∧ ax_r h r 3 = some (r + 4) ∧ ax_r h r 4 = some (r + 5)) ∧ ax_s h (r + 1) = (11, 6) ∧ ax_s h (r + 2) = (11, 6) ∧ ax_s h (r + 3) = (11, 6) ∧ ax_s h (r + 4) = (11, 72) ∧ ax_s h (r + 5) = (11, 72)
def rc_at (h : ax_H) (r : Nat) (D : rD) : Prop := rc_st h r ∧ (dH D ≤ 12 ∧ dP D ≤ 6) ∧ (ax_i h r 5 = nI (dH D) ∧ ax_i h r 6 = nI (dP D)) ∧ (∀ k, k < 6 → ax_i h (r + 1) k = dwo D k) ∧ (∀ k, k < 6 → ax_i h (r + 2) k = dmo D k) ∧ (∀ p, p < dP D → ax_i h (r + 3) p = dpu D p) ∧ (∀ p q, p < dP D → q < dH D → ax_i h (r + 4) (p * 12 + q) = dde D p q) ∧ ∀ p q, p < dP D → q < dH D → ax_i h (r + 5) (p * 12 + q) = dlo D p q
theorem rc_st_same {F : Nat → Prop} {h h' : ax_H} {r : Nat} (hs : ax_same F h h') (a : rc_st h r) : rc_st h' r := by
  obtain ⟨-, s, f, -⟩ := hs
  obtain ⟨a1, ⟨b1, b2, b3, b4, b5⟩, c1, c2, c3, c4, c5⟩ := a
  exact ⟨by rw [s]; exact a1, ⟨by rw [f]; exact b1, by rw [f]; exact b2, by rw [f]; exact b3, by rw [f]; exact b4, by rw [f]; exact b5⟩, by rw [s]; exact c1, by rw [s]; exact c2, by rw [s]; exact c3, by rw [s]; exact c4, by rw [s]; exact c5⟩
theorem rc_at_same {F : Nat → Prop} {h h' : ax_H} {r : Nat} {D : rD} (hs : ax_same F h h') (hF : ∀ j, j < 6 → ¬ F (r + j)) (a : rc_at h r D) : rc_at h' r D := by
  obtain ⟨a1, a2, a3, a4, a5, a6, a7, a8⟩ := a
  have e : ∀ j, j < 6 → ∀ k, ax_i h' (r + j) k = ax_i h (r + j) k := fun j hj => (hs.2.2.2 _ (hF j hj)).1
  have e0 : ∀ k, ax_i h' r k = ax_i h r k := e 0 (by decide)
  exact ⟨rc_st_same hs a1, a2, ⟨by rw [e0]; exact a3.1, by rw [e0]; exact a3.2⟩, fun k hk => by rw [e 1 (by decide)]; exact a4 k hk, fun k hk => by rw [e 2 (by decide)]; exact a5 k hk, fun k hk => by rw [e 3 (by decide)]; exact a6 k hk, fun p q hp hq => by rw [e 4 (by decide)]; exact a7 p q hp hq, fun p q hp hq => by rw [e 5 (by decide)]; exact a8 p q hp hq⟩
/-! what its methods answer -/
def sp_in (x : Int32) (n : Nat) : Bool := decide (0 ≤ x ∧ x < nI n)
def b2i (b : Bool) : Int32 := if b then 1 else 0
def sp_wo (D : rD) (k : Int32) : Int32 := if k < 0 ∨ 6 ≤ k then 0 else dwo D k.toNatClampNeg
def sp_mo (D : rD) (k : Int32) : Int32 := if k < 0 ∨ 6 ≤ k then 1 else dmo D k.toNatClampNeg
def sp_xb (D : rD) (k m : Int32) : Int32 := if m = 0 then sp_wo D k else if m = 2 then -(sp_wo D k) else 0
def sp_ex (D : rD) (k : Int32) : Int32 := sp_xb D k (sp_mo D k)
def sp_de (D : rD) (p q : Int32) : Int32 := if sp_in p (dP D) && sp_in q (dH D) then dde D p.toNatClampNeg q.toNatClampNeg else -1
def sp_lo (D : rD) (p q : Int32) : Int32 := if sp_in p (dP D) && sp_in q (dH D) then dlo D p.toNatClampNeg q.toNatClampNeg else 0
def sp_wd (D : rD) (p : Int32) : Int32 := sumN (fun q => sp_wo D (sp_de D p (nI q))) (dH D)
theorem nt_lt {a b : Int32} : ¬ a < b ↔ b ≤ a := Int32.not_lt
theorem nt_le {a b : Int32} : ¬ a ≤ b ↔ b < a := Int32.not_le
variable {g : ax_G} {Ret : Option Value → ax_H → Prop} {h : ax_H} {r : Nat} {D : rD}
theorem c_hasHour {x : Int32} (hD : rc_at h r D) (hq : Ret (some (.int (b2i (sp_in x (dH D))))) h) : mX6_hasHour g [.ref r, .int x] h Ret := by
  have e := hD.2.2.1.1
  unfold sp_in b2i at hq
  refine eX6_hasHour ⟨fun h1 => ⟨Or.inl rfl, ?_⟩, fun h1 => ⟨hD.1.1, fun h2 => ⟨Or.inl rfl, ?_⟩, fun h2 => ⟨Or.inr rfl, ?_⟩⟩⟩
  · rw [show decide (0 ≤ x ∧ x < nI (dH D)) = false from decide_eq_false (fun q => absurd h1 (nt_lt.mpr q.1))] at hq
    exact hq
  · rw [e] at h2
    rw [show decide (0 ≤ x ∧ x < nI (dH D)) = false from decide_eq_false (fun q => absurd q.2 (nt_lt.mpr h2))] at hq
    exact hq
  · rw [e] at h2
    rw [show decide (0 ≤ x ∧ x < nI (dH D)) = true from decide_eq_true ⟨nt_lt.mp h1, nt_le.mp h2⟩] at hq
    exact hq
theorem c_hasPerson {x : Int32} (hD : rc_at h r D) (hq : Ret (some (.int (b2i (sp_in x (dP D))))) h) : mX6_hasPerson g [.ref r, .int x] h Ret := by
  have e := hD.2.2.1.2
  unfold sp_in b2i at hq
  refine eX6_hasPerson ⟨fun h1 => ⟨Or.inl rfl, ?_⟩, fun h1 => ⟨hD.1.1, fun h2 => ⟨Or.inl rfl, ?_⟩, fun h2 => ⟨Or.inr rfl, ?_⟩⟩⟩
  · rw [show decide (0 ≤ x ∧ x < nI (dP D)) = false from decide_eq_false (fun q => absurd h1 (nt_lt.mpr q.1))] at hq
    exact hq
  · rw [e] at h2
    rw [show decide (0 ≤ x ∧ x < nI (dP D)) = false from decide_eq_false (fun q => absurd q.2 (nt_lt.mpr h2))] at hq
    exact hq
  · rw [e] at h2
    rw [show decide (0 ≤ x ∧ x < nI (dP D)) = true from decide_eq_true ⟨nt_lt.mp h1, nt_le.mp h2⟩] at hq
    exact hq
theorem b2i_0 {b : Bool} : b2i b = 0 ↔ b = false := by cases b <;> decide
theorem b2i_n0 {b : Bool} : ¬ b2i b = 0 ↔ b = true := by cases b <;> decide
theorem sp_in_ix {x : Int32} {n : Nat} (hn : n < 2 ^ 31) (h : sp_in x n = true) : ∃ j, j < n ∧ x = nI j := by
  have := of_decide_eq_true h
  exact (ni_ix hn).mp ⟨nt_lt.mpr this.1, nt_le.mpr this.2⟩
theorem sp_in_nI {j n : Nat} (hn : n < 2 ^ 31) (h : j < n) : sp_in (nI j) n = true := decide_eq_true ⟨nI_pos' (by omega), nI_lt h hn⟩
theorem c_hasPersonOrAll {x : Int32} (hD : rc_at h r D) (hq : Ret (some (.int (b2i (decide (x = -1) || sp_in x (dP D))))) h) : mX6_hasPersonOrAll g [.ref r, .int x] h Ret := by
  refine eX6_hasPersonOrAll ⟨fun h1 => ?_, fun h1 => ?_⟩
  · subst h1
    exact ⟨Or.inr rfl, hq⟩
  · refine ⟨hD.1.1, c_hasPerson hD ⟨_, rfl, fun h2 => ⟨Or.inl rfl, ?_⟩, fun h2 => ⟨Or.inr rfl, ?_⟩⟩⟩
    · rw [b2i_0] at h2
      rw [h2, decide_eq_false h1] at hq
      exact hq
    · rw [b2i_n0] at h2
      rw [h2, decide_eq_false h1] at hq
      exact hq
theorem c_deedAt {x y : Int32} (hD : rc_at h r D) (hq : Ret (some (.int (sp_de D x y))) h) : mX6_deedAt g [.ref r, .int x, .int y] h Ret := by
  unfold sp_de at hq
  refine eX6_deedAt ⟨hD.1.1, c_hasPerson hD ⟨_, rfl, fun h1 => ?_, fun h1 => ⟨hD.1.1, c_hasHour hD ⟨_, rfl, fun h2 => ?_, fun h2 => ?_⟩⟩⟩⟩
  · rw [b2i_0] at h1
    rw [h1] at hq
    exact hq
  · rw [b2i_0] at h2
    rw [h2, Bool.and_false] at hq
    exact hq
  · rw [b2i_n0] at h1 h2
    rw [h1, h2] at hq
    obtain ⟨p, hp, rfl⟩ := sp_in_ix (by have := hD.2.1.2; omega) h1
    obtain ⟨q, hq', rfl⟩ := sp_in_ix (by have := hD.2.1.1; omega) h2
    have hb := hD.2.1
    obtain ⟨-, ⟨-, -, -, e3, -⟩, -, -, -, e4, -⟩ := hD.1
    refine ⟨hD.1.1, _, e3, by rw [e4], ?_, ?_⟩
    · rw [e4, ni_12]
      exact vp_in_nI (by omega) (by decide)
    · rw [ni_12, nI_clamp (by omega), hD.2.2.2.2.2.2.1 p q hp hq']
      rw [nI_clamp (by omega), nI_clamp (by omega)] at hq
      exact hq
theorem c_lotAt {x y : Int32} (hD : rc_at h r D) (hq : Ret (some (.int (sp_lo D x y))) h) : mX6_lotAt g [.ref r, .int x, .int y] h Ret := by
  unfold sp_lo at hq
  refine eX6_lotAt ⟨hD.1.1, c_hasPerson hD ⟨_, rfl, fun h1 => ?_, fun h1 => ⟨hD.1.1, c_hasHour hD ⟨_, rfl, fun h2 => ?_, fun h2 => ?_⟩⟩⟩⟩
  · rw [b2i_0] at h1
    rw [h1] at hq
    exact hq
  · rw [b2i_0] at h2
    rw [h2, Bool.and_false] at hq
    exact hq
  · rw [b2i_n0] at h1 h2
    rw [h1, h2] at hq
    obtain ⟨p, hp, rfl⟩ := sp_in_ix (by have := hD.2.1.2; omega) h1
    obtain ⟨q, hq', rfl⟩ := sp_in_ix (by have := hD.2.1.1; omega) h2
    have hb := hD.2.1
    obtain ⟨-, ⟨-, -, -, -, e3⟩, -, -, -, -, e4⟩ := hD.1
    refine ⟨hD.1.1, _, e3, by rw [e4], ?_, ?_⟩
    · rw [e4, ni_12]
      exact vp_in_nI (by omega) (by decide)
    · rw [ni_12, nI_clamp (by omega), hD.2.2.2.2.2.2.2 p q hp hq']
      rw [nI_clamp (by omega), nI_clamp (by omega)] at hq
      exact hq
theorem c_worthOf {x : Int32} (hD : rc_at h r D) (hq : Ret (some (.int (sp_wo D x))) h) : mX6_worthOf g [.ref r, .int x] h Ret := by
  unfold sp_wo at hq
  obtain ⟨e0, ⟨e3, -, -, -, -⟩, e4, -, -, -, -⟩ := hD.1
  refine eX6_worthOf ⟨fun h1 => ?_, fun h1 => ⟨fun h2 => ?_, fun h2 => ?_⟩⟩
  · rw [if_pos (Or.inl h1)] at hq; exact hq
  · rw [if_neg (fun q => q.elim h1 (nt_le.mpr h2))] at hq
    obtain ⟨j, hj, rfl⟩ := (ni_ix (n := 6) (by decide)).mp ⟨h1, nt_le.mpr h2⟩
    refine ⟨e0, _, e3, by rw [e4], by rw [e4]; exact vp_in_nI hj (by decide), ?_⟩
    rw [nI_clamp (by omega)] at hq ⊢
    rw [hD.2.2.2.1 j hj]
    exact hq
  · rw [if_pos (Or.inr (nt_lt.mp h2))] at hq; exact hq
theorem c_modeOf {x : Int32} (hD : rc_at h r D) (hq : Ret (some (.int (sp_mo D x))) h) : mX6_modeOf g [.ref r, .int x] h Ret := by
  unfold sp_mo at hq
  obtain ⟨e0, ⟨-, e3, -, -, -⟩, -, e4, -, -, -⟩ := hD.1
  refine eX6_modeOf ⟨fun h1 => ?_, fun h1 => ⟨fun h2 => ?_, fun h2 => ?_⟩⟩
  · rw [if_pos (Or.inl h1)] at hq; exact hq
  · rw [if_neg (fun q => q.elim h1 (nt_le.mpr h2))] at hq
    obtain ⟨j, hj, rfl⟩ := (ni_ix (n := 6) (by decide)).mp ⟨h1, nt_le.mpr h2⟩
    refine ⟨e0, _, e3, by rw [e4], by rw [e4]; exact vp_in_nI hj (by decide), ?_⟩
    rw [nI_clamp (by omega)] at hq ⊢
    rw [hD.2.2.2.2.1 j hj]
    exact hq
  · rw [if_pos (Or.inr (nt_lt.mp h2))] at hq; exact hq
theorem c_extraBy {x y : Int32} (hD : rc_at h r D) (hq : Ret (some (.int (sp_xb D x y))) h) : mX6_extraBy g [.ref r, .int x, .int y] h Ret := by
  unfold sp_xb at hq
  refine eX6_extraBy ⟨fun h1 => ⟨hD.1.1, c_worthOf hD ⟨_, rfl, ?_⟩⟩, fun h1 => ⟨fun h2 => ⟨hD.1.1, c_worthOf hD ⟨_, rfl, ?_⟩⟩, fun h2 => ?_⟩⟩
  · rw [if_pos h1] at hq; exact hq
  · rw [if_neg h1, if_pos h2] at hq; exact hq
  · rw [if_neg h1, if_neg h2] at hq; exact hq
theorem c_extraOf {x : Int32} (hD : rc_at h r D) (hq : Ret (some (.int (sp_ex D x))) h) : mX6_extraOf g [.ref r, .int x] h Ret :=
  eX6_extraOf ⟨hD.1.1, c_modeOf hD ⟨_, rfl, hD.1.1, c_extraBy hD ⟨_, rfl, hq⟩⟩⟩
theorem c_worthOfDeeds {x : Int32} (hD : rc_at h r D) (hq : Ret (some (.int (sp_wd D x))) h) : mX6_worthOfDeeds g [.ref r, .int x] h Ret := by
  refine uX6_worthOfDeeds (fun A hA => vX6_worthOfDeeds_0 hA ?_)
  have hH := hD.2.1.1
  have key : ∀ n i : Nat, i + n = dH D → A (4, [some (.ref r), some (.int x), some (.int (sumN (fun q => sp_wo D (sp_de D x (nI q))) i)), some (.int (nI i))], [], h, 0, 0) := by
    intro n
    induction n with
    | zero =>
      intro i hi
      refine vX6_worthOfDeeds_4 hA ⟨hD.1.1, fun _ => ?_, fun h1 => ?_⟩
      · rw [show i = dH D by omega]; exact hq
      · rw [hD.2.2.1.1] at h1
        exact absurd (nI_le (by omega) (by omega)) h1
    | succ n ih =>
      intro i hi
      refine vX6_worthOfDeeds_4 hA ⟨hD.1.1, fun h1 => ?_, fun _ => ⟨hD.1.1, c_deedAt hD ⟨_, rfl, hD.1.1, c_worthOf hD ⟨_, rfl, ?_⟩⟩⟩⟩
      · rw [hD.2.2.1.1] at h1
        exact absurd h1 (nI_ge (by omega) (by omega))
      · have := ih (i + 1) (by omega)
        rw [nI_succ] at this
        exact this
  exact key (dH D) 0 (by omega)
end
end

section
section
/-! the odds of a day: hours, weights, their sum -/
def od_F (o : Nat) : Nat → Prop := fun a => a = o ∨ a = o + 1
def od_st (h : ax_H) (o : Nat) : Prop := (ax_s h o).1 = 3 ∧ ax_r h o 0 = some (o + 1) ∧ ax_s h (o + 1) = (11, 12)
def od_at (h : ax_H) (o H : Nat) (w : Nat → Int32) (t : Int32) : Prop := od_st h o ∧ H ≤ 12 ∧ ax_i h o 1 = nI H ∧ ax_i h o 2 = t ∧ ∀ q, q < H → ax_i h (o + 1) q = w q
theorem od_st_same {F : Nat → Prop} {h h' : ax_H} {o : Nat} (hs : ax_same F h h') (a : od_st h o) : od_st h' o := ⟨by rw [hs.2.1]; exact a.1, by rw [hs.2.2.1]; exact a.2.1, by rw [hs.2.1]; exact a.2.2⟩
theorem od_at_same {F : Nat → Prop} {h h' : ax_H} {o H : Nat} {w : Nat → Int32} {t : Int32} (hs : ax_same F h h') (hF : ¬ F o ∧ ¬ F (o + 1)) (a : od_at h o H w t) : od_at h' o H w t := ⟨od_st_same hs a.1, a.2.1, by rw [(hs.2.2.2 _ hF.1).1]; exact a.2.2.1, by rw [(hs.2.2.2 _ hF.1).1]; exact a.2.2.2.1, fun q hq => by rw [(hs.2.2.2 _ hF.2).1]; exact a.2.2.2.2 q hq⟩
/-- the weights by the lots of a ruler (or of nobody) -/
def sp_ws (D : rD) (x : Int32) : Int32 := sumN (fun q => sp_lo D x (nI q)) (dH D)
def sp_w (D : rD) (x : Int32) (q : Nat) : Int32 := if sp_ws D x = 0 then 1 else sp_lo D x (nI q)
def sp_t (D : rD) (x : Int32) : Int32 := if sp_ws D x = 0 then nI (dH D) else sp_ws D x
variable {g : ax_G} {Ret : Option Value → ax_H → Prop} {h : ax_H} {r o : Nat} {D : rD}
theorem c_weigh {x : Int32} (hO : od_st h o) (hD : rc_at h r D) (hne : ∀ j, j < 6 → ¬ od_F o (r + j)) (hq : ∀ h', ax_same (od_F o) h h' → od_at h' o (dH D) (sp_w D x) (sp_t D x) → Ret none h') : mX3_weigh g [.ref o, .ref r, .int x] h Ret := by
  have hH := hD.2.1.1
  have hoF : od_F o o := Or.inl rfl
  have hoF1 : od_F o (o + 1) := Or.inr rfl
  refine uX3_weigh (fun A hA => vX3_weigh_0 hA ⟨hD.1.1, hO.1, ?_⟩)
  intro h1
  refine ⟨hO.1, ?_⟩
  intro h2
  -- the second loop: all weights one
  have loop2 : ∀ n i : Nat, ∀ (hh : ax_H) (o1 o2 : Option Value), i + n = dH D → sp_ws D x = 0 → ax_same (od_F o) h hh → ax_i hh o 1 = nI (dH D) → (∀ q, q < i → ax_i hh (o + 1) q = 1) → A (65, [some (.ref o), o1, o2, some (.int (nI i))], [], hh, 0, 0) := by
    intro n
    induction n with
    | zero =>
      intro i hh o1 o2 hi h0 hs hr hw
      have hO' := od_st_same hs hO
      refine vX3_weigh_65 hA ⟨hO'.1, fun _ => ⟨hO'.1, hO'.1, ?_⟩, fun q => ?_⟩
      · intro h10
        refine hq h10 (sm_tr hs (sm_pi hoF)) ⟨od_st_same (sm_pi hoF) hO', hH, ?_, ?_, fun q hq' => ?_⟩
        · show ax_i (ax_pi hh o 2 (ax_i hh o 1)) o 1 = _
          rw [ai_pi, if_neg (by omega)]; exact hr
        · show ax_i (ax_pi hh o 2 (ax_i hh o 1)) o 2 = _
          rw [ai_pi, if_pos ⟨rfl, rfl⟩, hr]; unfold sp_t; rw [if_pos h0]
        · show ax_i (ax_pi hh o 2 (ax_i hh o 1)) (o + 1) q = _
          rw [ai_pi, if_neg (by omega), hw q (by omega)]; unfold sp_w; rw [if_pos h0]
      · rw [hr] at q; exact absurd (nI_le (by omega) (by omega)) q
    | succ n ih =>
      intro i hh o1 o2 hi h0 hs hr hw
      have hO' := od_st_same hs hO
      refine vX3_weigh_65 hA ⟨hO'.1, fun q => ?_, fun _ => ⟨hO'.1, _, hO'.2.1, by rw [hO'.2.2], by rw [hO'.2.2]; exact vp_in_nI (by omega) (by decide), ?_⟩⟩
      · rw [hr] at q; exact absurd q (nI_ge (by omega) (by omega))
      · intro h12
        have := ih (i + 1) h12 o1 (ax_k2 o2) (by omega) h0 (sm_tr hs (sm_pi hoF1)) (by show ax_i (ax_pi hh (o + 1) (nI i).toNatClampNeg 1) o 1 = _; rw [ai_pi, if_neg (by omega)]; exact hr) (fun q hq' => by
          show ax_i (ax_pi hh (o + 1) (nI i).toNatClampNeg 1) (o + 1) q = _
          rw [ai_pi, nI_clamp (by omega)]
          by_cases e : q = i
          · rw [if_pos ⟨rfl, e⟩]
          · rw [if_neg (fun z => e z.2)]; exact hw q (by omega))
        rw [nI_succ] at this
        exact this
  have loop1 : ∀ n i : Nat, ∀ hh : ax_H, i + n = dH D → ax_same (od_F o) h hh → ax_i hh o 1 = nI (dH D) → ax_i hh o 2 = sumN (fun q => sp_lo D x (nI q)) i → (∀ q, q < i → ax_i hh (o + 1) q = sp_lo D x (nI q)) → A (15, [some (.ref o), some (.ref r), some (.int x), some (.int (nI i))], [], hh, 0, 0) := by
    intro n
    induction n with
    | zero =>
      intro i hh hi hs hr ht hw
      have hO' := od_st_same hs hO
      obtain rfl : i = dH D := by omega
      refine vX3_weigh_15 hA ⟨hO'.1, fun _ => ⟨hO'.1, fun q => ?_, fun q => ?_⟩, fun q => ?_⟩
      · rw [ht] at q
        have q : ¬ sp_ws D x = 0 := q
        refine hq hh hs ⟨hO', hH, hr, by rw [ht]; unfold sp_t; rw [if_neg q]; rfl, fun k hk => by rw [hw k hk]; unfold sp_w; rw [if_neg q]⟩
      · rw [ht] at q
        exact loop2 (dH D) 0 hh _ _ (by omega) q hs hr (fun k hk => absurd hk (Nat.not_lt_zero k))
      · rw [hr] at q; exact absurd (nI_le (Nat.le_refl _) (by omega)) q
    | succ n ih =>
      intro i hh hi hs hr ht hw
      have hO' := od_st_same hs hO
      have hD' := rc_at_same hs hne hD
      have e1 : ax_s hh (o + 1) = (11, 12) := hO'.2.2
      refine vX3_weigh_15 hA ⟨hO'.1, fun q => ?_, fun _ => ⟨hO'.1, _, hO'.2.1, hD'.1.1, c_lotAt hD' ⟨_, rfl, by rw [e1], by rw [e1]; exact vp_in_nI (by omega) (by decide), ?_⟩⟩⟩
      · rw [hr] at q; exact absurd q (nI_ge (by omega) (by omega))
      · intro h7
        have hs7 : ax_same (od_F o) hh h7 := sm_pi hoF1
        have hO7 := od_st_same hs7 hO'
        have e7 : ax_s h7 (o + 1) = (11, 12) := hO7.2.2
        refine ⟨rfl, hO7.1, hO7.1, _, hO7.2.1, by rw [e7], by rw [e7]; exact vp_in_nI (by omega) (by decide), hO7.1, ?_⟩
        intro h9
        have r1 : ax_i h7 o 2 = sumN (fun q => sp_lo D x (nI q)) i := by
          show ax_i (ax_pi hh (o + 1) (nI i).toNatClampNeg _) o 2 = _
          rw [ai_pi, if_neg (by omega)]; exact ht
        have r2 : ax_i h7 (o + 1) (nI i).toNatClampNeg = sp_lo D x (nI i) := by
          show ax_i (ax_pi hh (o + 1) (nI i).toNatClampNeg _) (o + 1) (nI i).toNatClampNeg = _
          rw [ai_pi, if_pos ⟨rfl, rfl⟩]
        have := ih (i + 1) h9 (by omega) (sm_tr hs (sm_tr hs7 (sm_pi hoF))) (by
            show ax_i (ax_pi h7 o 2 _) o 1 = _
            rw [ai_pi, if_neg (by omega)]
            show ax_i (ax_pi hh (o + 1) (nI i).toNatClampNeg _) o 1 = _
            rw [ai_pi, if_neg (by omega)]; exact hr) (by
            show ax_i (ax_pi h7 o 2 (ax_i h7 o 2 + ax_i h7 (o + 1) (nI i).toNatClampNeg)) o 2 = _
            rw [ai_pi, if_pos ⟨rfl, rfl⟩, r1, r2]; rfl) (fun q hq' => by
            show ax_i (ax_pi h7 o 2 _) (o + 1) q = _
            rw [ai_pi, if_neg (by omega)]
            show ax_i (ax_pi hh (o + 1) (nI i).toNatClampNeg _) (o + 1) q = _
            rw [ai_pi, nI_clamp (by omega)]
            by_cases e : q = i
            · rw [if_pos ⟨rfl, e⟩, e]
            · rw [if_neg (fun z => e z.2)]; exact hw q (by omega))
        rw [nI_succ] at this
        exact this
  refine loop1 (dH D) 0 h2 (by omega) (sm_tr (sm_pi hoF) (sm_pi hoF)) ?_ ?_ (fun q hq' => absurd hq' (Nat.not_lt_zero q))
  · show ax_i (ax_pi h1 o 2 0) o 1 = _
    rw [ai_pi, if_neg (by omega)]
    show ax_i (ax_pi h o 1 (ax_i h r 5)) o 1 = _
    rw [ai_pi, if_pos ⟨rfl, rfl⟩]
    exact hD.2.2.1.1
  · show ax_i (ax_pi h1 o 2 0) o 2 = _
    rw [ai_pi, if_pos ⟨rfl, rfl⟩]
    rfl
end
end

section
section
/-! the course of days: people, hours, purses, values -/
def co_F (c : Nat) : Nat → Prop := fun a => a = c ∨ a = c + 1 ∨ a = c + 2
def co_st (h : ax_H) (c : Nat) : Prop := (ax_s h c).1 = 0 ∧ ax_r h c 0 = some (c + 1) ∧ ax_r h c 1 = some (c + 2) ∧ ax_s h (c + 1) = (11, 6) ∧ ax_s h (c + 2) = (11, 72)
def co_at (h : ax_H) (c P H : Nat) (hv : Nat → Int32) (vl : Nat → Nat → Int32) : Prop := co_st h c ∧ (P ≤ 6 ∧ H ≤ 12) ∧ ax_i h c 2 = nI P ∧ ax_i h c 3 = nI H ∧ (∀ p, p < P → ax_i h (c + 1) p = hv p) ∧ ∀ p q, p < P → q < H → ax_i h (c + 2) (p * 12 + q) = vl p q
theorem co_st_same {F : Nat → Prop} {h h' : ax_H} {c : Nat} (hs : ax_same F h h') (a : co_st h c) : co_st h' c := ⟨by rw [hs.2.1]; exact a.1, by rw [hs.2.2.1]; exact a.2.1, by rw [hs.2.2.1]; exact a.2.2.1, by rw [hs.2.1]; exact a.2.2.2.1, by rw [hs.2.1]; exact a.2.2.2.2⟩
theorem co_at_same {F : Nat → Prop} {h h' : ax_H} {c P H : Nat} {hv : Nat → Int32} {vl : Nat → Nat → Int32} (hs : ax_same F h h') (hF : ¬ F c ∧ ¬ F (c + 1) ∧ ¬ F (c + 2)) (a : co_at h c P H hv vl) : co_at h' c P H hv vl := ⟨co_st_same hs a.1, a.2.1, by rw [(hs.2.2.2 _ hF.1).1]; exact a.2.2.1, by rw [(hs.2.2.2 _ hF.1).1]; exact a.2.2.2.1, fun p hp => by rw [(hs.2.2.2 _ hF.2.1).1]; exact a.2.2.2.2.1 p hp, fun p q hp hq => by rw [(hs.2.2.2 _ hF.2.2).1]; exact a.2.2.2.2.2 p q hp hq⟩
/-- the first of the n + 1 with least -/
def poo (hv : Nat → Int32) : Nat → Nat
  | 0 => 0
  | n + 1 => if hv (n + 1) < hv (poo hv n) then n + 1 else poo hv n
theorem poo_le (hv : Nat → Int32) : ∀ n, poo hv n ≤ n
  | 0 => Nat.le_refl _
  | n + 1 => by
    unfold poo
    have := poo_le hv n
    split <;> omega
theorem poo_congr {hv hw : Nat → Int32} : ∀ {n : Nat}, (∀ p, p ≤ n → hv p = hw p) → poo hv n = poo hw n
  | 0, _ => rfl
  | n + 1, h => by
    have e := poo_congr (n := n) (fun p hp => h p (by omega))
    unfold poo
    rw [e, h (n + 1) (Nat.le_refl _), h (poo hw n) (by have := poo_le hw n; omega)]
def sp_po (P : Nat) (hv : Nat → Int32) : Int32 := if P = 0 then -1 else nI (poo hv (P - 1))
/-- the first of the n + 1 with most -/
def bst (f : Nat → Int32) : Nat → Nat
  | 0 => 0
  | n + 1 => if f (bst f n) < f (n + 1) then n + 1 else bst f n
theorem bst_le (f : Nat → Int32) : ∀ n, bst f n ≤ n
  | 0 => Nat.le_refl _
  | n + 1 => by
    unfold bst
    have := bst_le f n
    split <;> omega
theorem bst_congr {f f' : Nat → Int32} : ∀ {n : Nat}, (∀ p, p ≤ n → f p = f' p) → bst f n = bst f' n
  | 0, _ => rfl
  | n + 1, h => by
    have e := bst_congr (n := n) (fun p hp => h p (by omega))
    unfold bst
    rw [e, h (n + 1) (Nat.le_refl _), h (bst f' n) (by have := bst_le f' n; omega)]
/-- what an hour brings to one, or to all -/
def sp_br (P H : Nat) (vl : Nat → Nat → Int32) (x y : Int32) : Int32 := if y < 0 ∨ nI H ≤ y ∨ nI P ≤ x then 0 else if x < 0 then sumN (fun p => vl p y.toNatClampNeg) P else vl x.toNatClampNeg y.toNatClampNeg
def iabs (x : Int32) : Int32 := if 0 ≤ x then x else 0 - x
theorem sp_br_in {P H : Nat} {vl : Nat → Nat → Int32} {p q : Nat} (hp : p < P) (hq : q < H) (hP : P ≤ 6) (hH : H ≤ 12) : sp_br P H vl (nI p) (nI q) = vl p q := by
  unfold sp_br
  rw [if_neg, if_neg (nI_pos (by omega)), nI_clamp (by omega), nI_clamp (by omega)]
  rintro (h | h | h)
  · exact nI_pos (by omega) h
  · exact nI_ge hq (by omega) h
  · exact nI_ge hp (by omega) h
variable {g : ax_G} {Ret : Option Value → ax_H → Prop} {h : ax_H} {c P H : Nat} {hv : Nat → Int32} {vl : Nat → Nat → Int32}
theorem c_brings {x y : Int32} (hC : co_at h c P H hv vl) (hq : Ret (some (.int (sp_br P H vl x y))) h) : mX0_brings g [.ref c, .int x, .int y] h Ret := by
  obtain ⟨⟨s0, -, r1, -, s2⟩, ⟨hP, hH⟩, e2, e3, -, ev⟩ := hC
  unfold sp_br at hq
  refine uX0_brings (fun A hA => vX0_brings_0 hA ⟨fun h1 => ?_, fun h1 => ⟨s0, fun h2 => ?_, fun h2 => ⟨s0, fun h3 => ⟨fun h4 => ?_, fun h4 => ?_⟩, fun h3 => ?_⟩⟩⟩)
  · rw [if_pos (Or.inl h1)] at hq; exact hq
  · rw [e3] at h2; rw [if_pos (Or.inr (Or.inl h2))] at hq; exact hq
  · rw [e3] at h2
    rw [e2] at h3
    rw [if_neg (by rintro (z | z | z); exact h1 z; exact h2 z; exact absurd h3 (nt_lt.mpr z)), if_pos h4] at hq
    obtain ⟨j, hj, rfl⟩ := (ni_ix (n := H) (by omega)).mp ⟨h1, h2⟩
    rw [nI_clamp (by omega)] at hq
    have key : ∀ n i : Nat, ∀ o1 : Option Value, i + n = P → A (43, [some (.ref c), o1, some (.int (nI j)), some (.int (sumN (fun p => vl p j) i)), some (.int (nI i))], [], h, 0, 0) := by
      intro n
      induction n with
      | zero =>
        intro i o1 hi
        refine vX0_brings_43 hA ⟨s0, fun _ => ?_, fun q => ?_⟩
        · rw [show i = P by omega]; exact hq
        · rw [e2] at q; exact absurd (nI_le (by omega) (by omega)) q
      | succ n ih =>
        intro i o1 hi
        refine vX0_brings_43 hA ⟨s0, fun q => ?_, fun _ => ⟨s0, _, r1, by rw [s2], ?_, ?_⟩⟩
        · rw [e2] at q; exact absurd q (nI_ge (by omega) (by omega))
        · rw [s2, ni_12]; exact vp_in_nI (by omega) (by decide)
        · rw [ni_12, nI_clamp (by omega), ev i j (by omega) hj, ← nI_succ]
          exact ih (i + 1) o1 (by omega)
    exact key P 0 _ (by omega)
  · rw [e3] at h2
    rw [e2] at h3
    rw [if_neg (by rintro (z | z | z); exact h1 z; exact h2 z; exact absurd h3 (nt_lt.mpr z)), if_neg h4] at hq
    obtain ⟨j, hj, rfl⟩ := (ni_ix (n := H) (by omega)).mp ⟨h1, h2⟩
    obtain ⟨i, hi, rfl⟩ := (ni_ix (n := P) (by omega)).mp ⟨h4, nt_le.mpr h3⟩
    refine ⟨s0, _, r1, by rw [s2], ?_, ?_⟩
    · rw [s2, ni_12]; exact vp_in_nI (by omega) (by decide)
    · rw [nI_clamp (by omega), nI_clamp (by omega)] at hq
      rw [ni_12, nI_clamp (by omega), ev i j hi hj]
      exact hq
  · rw [e2] at h3; rw [if_pos (Or.inr (Or.inr (nt_lt.mp h3)))] at hq; exact hq
theorem c_poorest (hC : co_at h c P H hv vl) (hq : Ret (some (.int (sp_po P hv))) h) : mX0_poorest g [.ref c] h Ret := by
  obtain ⟨⟨s0, r0, -, s1, -⟩, ⟨hP, -⟩, e2, -, eh, -⟩ := hC
  unfold sp_po at hq
  refine uX0_poorest (fun A hA => vX0_poorest_0 hA ⟨s0, fun h1 => ?_, fun h1 => ?_⟩)
  · rw [e2] at h1
    have hP0 : 0 < P := Nat.pos_of_ne_zero (fun z => h1 (by rw [z]; rfl))
    rw [if_neg (by omega)] at hq
    have key : ∀ n i : Nat, i + 1 + n = P → A (15, [some (.ref c), some (.int (nI (poo hv i))), some (.int (nI (i + 1)))], [], h, 0, 0) := by
      intro n
      induction n with
      | zero =>
        intro i hi
        refine vX0_poorest_15 hA ⟨s0, fun _ => ?_, fun q => ?_⟩
        · rw [show P - 1 = i by omega] at hq; exact hq
        · rw [e2] at q; exact absurd (nI_le (by omega) (by omega)) q
      | succ n ih =>
        intro i hi
        have hb := poo_le hv i
        refine vX0_poorest_15 hA ⟨s0, fun q => ?_, fun _ => ⟨s0, _, r0, by rw [s1], ?_, s0, _, r0, by rw [s1], ?_, fun q => ?_, fun q => ?_⟩⟩
        · rw [e2] at q; exact absurd q (nI_ge (by omega) (by omega))
        · rw [s1]; exact vp_in_nI (by omega) (by decide)
        · rw [s1]; exact vp_in_nI (by omega) (by decide)
        · rw [nI_clamp (by omega), nI_clamp (by omega), eh _ (by omega), eh _ (by omega)] at q
          have := ih (i + 1) (by omega)
          rw [show poo hv (i + 1) = poo hv i from if_neg (nt_lt.mpr q)] at this
          rw [← nI_succ]
          exact this
        · rw [nI_clamp (by omega), nI_clamp (by omega), eh _ (by omega), eh _ (by omega)] at q
          have := ih (i + 1) (by omega)
          rw [show poo hv (i + 1) = i + 1 from if_pos (nt_le.mp q)] at this
          rw [← nI_succ]
          exact this
    exact key (P - 1) 0 (by omega)
  · rw [e2] at h1
    have hP0 : P = 0 := by
      rcases Nat.eq_zero_or_pos P with z | z
      · exact z
      · exact absurd h1 (nI_ne0 z (by omega))
    rw [if_pos hP0] at hq
    refine vX0_poorest_15 hA ⟨s0, fun _ => hq, fun q => ?_⟩
    rw [e2, hP0] at q
    exact absurd (by decide) q
theorem c_live {y : Int32} (hC : co_at h c P H hv vl) (hq : ∀ h', ax_same (fun a => a = c + 1) h h' → co_at h' c P H (fun p => hv p + sp_br P H vl (nI p) y) vl → Ret none h') : mX0_live g [.ref c, .int y] h Ret := by
  have hP := hC.2.1.1
  have hH := hC.2.1.2
  refine uX0_live (fun A hA => vX0_live_0 hA ?_)
  have key : ∀ n i : Nat, ∀ hh : ax_H, i + n = P → ax_same (fun a => a = c + 1) h hh → co_at hh c P H (fun p => if p < i then hv p + sp_br P H vl (nI p) y else hv p) vl → A (2, [some (.ref c), some (.int y), some (.int (nI i))], [], hh, 0, 0) := by
    intro n
    induction n with
    | zero =>
      intro i hh hi hs hc
      refine vX0_live_2 hA ⟨hc.1.1, fun _ => hq hh hs ⟨hc.1, hc.2.1, hc.2.2.1, hc.2.2.2.1, fun p hp => ?_, hc.2.2.2.2.2⟩, fun q => ?_⟩
      · rw [hc.2.2.2.2.1 p hp]; dsimp only; rw [if_pos (by omega)]
      · rw [hc.2.2.1] at q; exact absurd (nI_le (by omega) (by omega)) q
    | succ n ih =>
      intro i hh hi hs hc
      obtain ⟨s0, r0, -, s1, -⟩ := hc.1
      refine vX0_live_2 hA ⟨s0, fun q => ?_, fun _ => ⟨s0, _, r0, ⟨rfl, rfl⟩, by rw [s1], by rw [s1]; exact vp_in_nI (by omega) (by decide), s0, c_brings hc ⟨_, rfl, by rw [s1], by rw [s1]; exact vp_in_nI (by omega) (by decide), ?_⟩⟩⟩
      · rw [hc.2.2.1] at q; exact absurd q (nI_ge (by omega) (by omega))
      · intro h5
        have hs5 : ax_same (fun a => a = c + 1) hh h5 := sm_pi rfl
        have := ih (i + 1) h5 (by omega) (sm_tr hs hs5) ⟨co_st_same hs5 hc.1, hc.2.1, by rw [(hs5.2.2.2 c (by omega)).1]; exact hc.2.2.1, by rw [(hs5.2.2.2 c (by omega)).1]; exact hc.2.2.2.1, fun p hp => ?_, fun p q hp hq' => by rw [(hs5.2.2.2 (c + 2) (by omega)).1]; exact hc.2.2.2.2.2 p q hp hq'⟩
        · rw [nI_succ] at this; exact this
        · show ax_i (ax_pi hh (c + 1) (nI i).toNatClampNeg _) (c + 1) p = _
          rw [ai_pi, nI_clamp (by omega), hc.2.2.2.2.1 i (by omega)]
          dsimp only
          rw [if_neg (Nat.lt_irrefl i)]
          by_cases e : p = i
          · subst e
            rw [if_pos ⟨rfl, rfl⟩, if_pos (Nat.lt_succ_self _)]
          · rw [if_neg (fun z => e z.2), hc.2.2.2.2.1 p hp]
            dsimp only
            by_cases e2 : p < i
            · rw [if_pos e2, if_pos (by omega)]
            · rw [if_neg e2, if_neg (by omega)]
  exact key P 0 h (by omega) sm_rf ⟨hC.1, hC.2.1, hC.2.2.1, hC.2.2.2.1, fun p hp => by dsimp only; rw [if_neg (Nat.not_lt_zero p)]; exact hC.2.2.2.2.1 p hp, hC.2.2.2.2.2⟩
theorem c_unlive {y : Int32} (hC : co_at h c P H hv vl) (hq : ∀ h', ax_same (fun a => a = c + 1) h h' → co_at h' c P H (fun p => hv p - sp_br P H vl (nI p) y) vl → Ret none h') : mX0_unlive g [.ref c, .int y] h Ret := by
  have hP := hC.2.1.1
  have hH := hC.2.1.2
  refine uX0_unlive (fun A hA => vX0_unlive_0 hA ?_)
  have key : ∀ n i : Nat, ∀ hh : ax_H, i + n = P → ax_same (fun a => a = c + 1) h hh → co_at hh c P H (fun p => if p < i then hv p - sp_br P H vl (nI p) y else hv p) vl → A (2, [some (.ref c), some (.int y), some (.int (nI i))], [], hh, 0, 0) := by
    intro n
    induction n with
    | zero =>
      intro i hh hi hs hc
      refine vX0_unlive_2 hA ⟨hc.1.1, fun _ => hq hh hs ⟨hc.1, hc.2.1, hc.2.2.1, hc.2.2.2.1, fun p hp => ?_, hc.2.2.2.2.2⟩, fun q => ?_⟩
      · rw [hc.2.2.2.2.1 p hp]; dsimp only; rw [if_pos (by omega)]
      · rw [hc.2.2.1] at q; exact absurd (nI_le (by omega) (by omega)) q
    | succ n ih =>
      intro i hh hi hs hc
      obtain ⟨s0, r0, -, s1, -⟩ := hc.1
      refine vX0_unlive_2 hA ⟨s0, fun q => ?_, fun _ => ⟨s0, _, r0, ⟨rfl, rfl⟩, by rw [s1], by rw [s1]; exact vp_in_nI (by omega) (by decide), s0, c_brings hc ⟨_, rfl, by rw [s1], by rw [s1]; exact vp_in_nI (by omega) (by decide), ?_⟩⟩⟩
      · rw [hc.2.2.1] at q; exact absurd q (nI_ge (by omega) (by omega))
      · intro h5
        have hs5 : ax_same (fun a => a = c + 1) hh h5 := sm_pi rfl
        have := ih (i + 1) h5 (by omega) (sm_tr hs hs5) ⟨co_st_same hs5 hc.1, hc.2.1, by rw [(hs5.2.2.2 c (by omega)).1]; exact hc.2.2.1, by rw [(hs5.2.2.2 c (by omega)).1]; exact hc.2.2.2.1, fun p hp => ?_, fun p q hp hq' => by rw [(hs5.2.2.2 (c + 2) (by omega)).1]; exact hc.2.2.2.2.2 p q hp hq'⟩
        · rw [nI_succ] at this; exact this
        · show ax_i (ax_pi hh (c + 1) (nI i).toNatClampNeg _) (c + 1) p = _
          rw [ai_pi, nI_clamp (by omega), hc.2.2.2.2.1 i (by omega)]
          dsimp only
          rw [if_neg (Nat.lt_irrefl i)]
          by_cases e : p = i
          · subst e
            rw [if_pos ⟨rfl, rfl⟩, if_pos (Nat.lt_succ_self _)]
          · rw [if_neg (fun z => e z.2), hc.2.2.2.2.1 p hp]
            dsimp only
            by_cases e2 : p < i
            · rw [if_pos e2, if_pos (by omega)]
            · rw [if_neg e2, if_neg (by omega)]
  exact key P 0 h (by omega) sm_rf ⟨hC.1, hC.2.1, hC.2.2.1, hC.2.2.2.1, fun p hp => by dsimp only; rw [if_neg (Nat.not_lt_zero p)]; exact hC.2.2.2.2.1 p hp, hC.2.2.2.2.2⟩
end
end

section
section
variable {g : ax_G} {Ret : Option Value → ax_H → Prop} {h : ax_H} {c P H : Nat} {hv : Nat → Int32} {vl : Nat → Nat → Int32}
/-- the first hour that brings most -/
def sp_bh (P H : Nat) (vl : Nat → Nat → Int32) (x : Int32) : Int32 := nI (bst (fun q => sp_br P H vl x (nI q)) (H - 1))
theorem c_bestHour {x : Int32} (hH1 : 1 ≤ H) (hC : co_at h c P H hv vl) (hq : Ret (some (.int (sp_bh P H vl x))) h) : mX0_bestHour g [.ref c, .int x] h Ret := by
  have hH := hC.2.1.2
  have s0 := hC.1.1
  have e3 := hC.2.2.2.1
  refine uX0_bestHour (fun A hA => vX0_bestHour_0 hA ⟨s0, c_brings hC ⟨_, rfl, ?_⟩⟩)
  have key : ∀ n i : Nat, ∀ o5 : Option Value, i + 1 + n = H → A (12, [some (.ref c), some (.int x), some (.int (nI (bst (fun q => sp_br P H vl x (nI q)) i))), some (.int (sp_br P H vl x (nI (bst (fun q => sp_br P H vl x (nI q)) i)))), some (.int (nI (i + 1))), o5], [], h, 0, 0) := by
    intro n
    induction n with
    | zero =>
      intro i o5 hi
      refine vX0_bestHour_12 hA ⟨s0, fun _ => ?_, fun q => ?_⟩
      · unfold sp_bh at hq; rw [show H - 1 = i by omega] at hq; exact hq
      · rw [e3] at q; exact absurd (nI_le (by omega) (by omega)) q
    | succ n ih =>
      intro i o5 hi
      refine vX0_bestHour_12 hA ⟨s0, fun q => ?_, fun _ => ⟨s0, c_brings hC ⟨_, rfl, fun q => ?_, fun q => ?_⟩⟩⟩
      · rw [e3] at q; exact absurd q (nI_ge (by omega) (by omega))
      · have := ih (i + 1) (some (.int (sp_br P H vl x (nI (i + 1))))) (by omega)
        rw [show bst (fun q => sp_br P H vl x (nI q)) (i + 1) = bst (fun q => sp_br P H vl x (nI q)) i from if_neg (nt_lt.mpr q)] at this
        rw [← nI_succ]
        exact this
      · have := ih (i + 1) (some (.int (sp_br P H vl x (nI (i + 1))))) (by omega)
        rw [show bst (fun q => sp_br P H vl x (nI q)) (i + 1) = i + 1 from if_pos (nt_le.mp q)] at this
        rw [← nI_succ]
        exact this
  exact key (H - 1) 0 _ (by omega)
/-- what a day is to bring, times all weights -/
def sp_we (P H : Nat) (vl : Nat → Nat → Int32) (w : Nat → Int32) (x : Int32) : Int64 := sumL (fun q => (w q).toInt64 * (sp_br P H vl x (nI q)).toInt64) H
theorem c_weighed {o H2 : Nat} {w : Nat → Int32} {t x : Int32} (hC : co_at h c P H hv vl) (hO : od_at h o H2 w t) (hH2 : H ≤ H2) (hq : Ret (some (.long (sp_we P H vl w x))) h) : mX0_weighed g [.ref c, .int x, .ref o] h Ret := by
  have hH := hC.2.1.2
  have s0 := hC.1.1
  have e3 := hC.2.2.2.1
  obtain ⟨⟨so, ro, sw⟩, hH3, -, -, ew⟩ := hO
  refine uX0_weighed (fun A hA => vX0_weighed_0 hA ?_)
  have key : ∀ n i : Nat, i + n = H → A (5, [some (.ref c), some (.int x), some (.ref o), some (.long (sumL (fun q => (w q).toInt64 * (sp_br P H vl x (nI q)).toInt64) i)), none, some (.int (nI i))], [], h, 0, 0) := by
    intro n
    induction n with
    | zero =>
      intro i hi
      refine vX0_weighed_5 hA ⟨s0, fun _ => ?_, fun q => ?_⟩
      · rw [show i = H by omega]; exact hq
      · rw [e3] at q; exact absurd (nI_le (by omega) (by omega)) q
    | succ n ih =>
      intro i hi
      refine vX0_weighed_5 hA ⟨s0, fun q => ?_, fun _ => ⟨so, _, ro, by rw [sw], by rw [sw]; exact vp_in_nI (by omega) (by decide), s0, c_brings hC ⟨_, rfl, ?_⟩⟩⟩
      · rw [e3] at q; exact absurd q (nI_ge (by omega) (by omega))
      · rw [nI_clamp (by omega), ew i (by omega), ← nI_succ]
        exact ih (i + 1) (by omega)
  exact key H 0 (by omega)
/-- how far two hours lie apart -/
def sp_ap (P H : Nat) (vl : Nat → Nat → Int32) (x y : Int32) : Int32 := sumN (fun p => iabs (sp_br P H vl (nI p) x - sp_br P H vl (nI p) y)) P
theorem c_apart {x y : Int32} (hC : co_at h c P H hv vl) (hq : Ret (some (.int (sp_ap P H vl x y))) h) : mX0_apart g [.ref c, .int x, .int y] h Ret := by
  have hP := hC.2.1.1
  have s0 := hC.1.1
  have e2 := hC.2.2.1
  refine uX0_apart (fun A hA => vX0_apart_0 hA ?_)
  have key : ∀ n i : Nat, i + n = P → A (5, [some (.ref c), some (.int x), some (.int y), some (.int (sumN (fun p => iabs (sp_br P H vl (nI p) x - sp_br P H vl (nI p) y)) i)), some (.int (nI i))], [], h, 0, 0) := by
    intro n
    induction n with
    | zero =>
      intro i hi
      refine vX0_apart_5 hA ⟨s0, fun _ => ?_, fun q => ?_⟩
      · rw [show i = P by omega]; exact hq
      · rw [e2] at q; exact absurd (nI_le (by omega) (by omega)) q
    | succ n ih =>
      intro i hi
      refine vX0_apart_5 hA ⟨s0, fun q => ?_, fun _ => ⟨s0, c_brings hC ⟨_, rfl, s0, c_brings hC ⟨_, rfl, ?_⟩⟩⟩⟩
      · rw [e2] at q; exact absurd q (nI_ge (by omega) (by omega))
      · rw [← nI_succ]
        exact ih (i + 1) (by omega)
  exact key P 0 (by omega)
/-- a purse, or whether one is the poorest -/
def sp_me (P : Nat) (hv : Nat → Int32) (x : Int32) (b : Int32) : Int32 := if b = 0 then (if x < 0 ∨ nI P ≤ x then 0 else hv x.toNatClampNeg) else if sp_po P hv = x then 1 else 0
theorem c_measure {x b : Int32} (hC : co_at h c P H hv vl) (hq : Ret (some (.int (sp_me P hv x b))) h) : mX0_measure g [.ref c, .int x, .int b] h Ret := by
  have hP := hC.2.1.1
  obtain ⟨s0, r0, -, s1, -⟩ := hC.1
  have e2 := hC.2.2.1
  unfold sp_me at hq
  refine eX0_measure ⟨fun h1 => ⟨fun h2 => ?_, fun h2 => ⟨s0, fun h3 => ?_, fun h3 => ?_⟩⟩, fun h1 => ⟨s0, c_poorest hC ⟨_, rfl, fun h2 => ?_, fun h2 => ?_⟩⟩⟩
  · rw [if_pos h1, if_pos (Or.inl h2)] at hq; exact hq
  · rw [e2] at h3
    obtain ⟨i, hi, rfl⟩ := (ni_ix (n := P) (by omega)).mp ⟨h2, nt_le.mpr h3⟩
    rw [if_pos h1, if_neg (by rintro (z | z); exact h2 z; exact absurd h3 (nt_lt.mpr z)), nI_clamp (by omega)] at hq
    refine ⟨s0, _, r0, by rw [s1], by rw [s1]; exact vp_in_nI (by omega) (by decide), ?_⟩
    rw [nI_clamp (by omega), hC.2.2.2.2.1 i hi]
    exact hq
  · rw [e2] at h3
    rw [if_pos h1, if_pos (Or.inr (nt_lt.mp h3))] at hq; exact hq
  · rw [if_neg h1, if_neg h2] at hq; exact hq
  · rw [if_neg h1, if_pos h2] at hq; exact hq
/-- the values of a republic's hours -/
def sp_vl (D : rD) (p q : Nat) : Int32 := sp_wd D (nI p) + sp_ex D (sp_de D (nI p) (nI q))
theorem c_begin {r : Nat} {D : rD} (hO : co_st h c) (hD : rc_at h r D) (hne : ∀ j, j < 6 → ¬ co_F c (r + j)) (hq : ∀ h', ax_same (co_F c) h h' → co_at h' c (dP D) (dH D) (dpu D) (sp_vl D) → Ret none h') : mX0_begin g [.ref c, .ref r] h Ret := by
  obtain ⟨hH, hP⟩ := hD.2.1
  have f0 : co_F c c := Or.inl rfl
  have f1 : co_F c (c + 1) := Or.inr (Or.inl rfl)
  have f2 : co_F c (c + 2) := Or.inr (Or.inr rfl)
  refine uX0_begin (fun A hA => vX0_begin_0 hA ⟨hD.1.1, hO.1, ?_⟩)
  intro h1
  have hs1 : ax_same (co_F c) h h1 := sm_pi f0
  have hD1 := rc_at_same hs1 hne hD
  refine ⟨hD1.1.1, (co_st_same hs1 hO).1, ?_⟩
  intro h2
  have hs2 : ax_same (co_F c) h h2 := sm_tr hs1 (sm_pi f0)
  -- an inner row, then the outer loop
  have key : ∀ n i : Nat, ∀ (hh : ax_H) (o3 o4 : Option Value), i + n = dP D → ax_same (co_F c) h hh → ax_i hh c 2 = nI (dP D) → ax_i hh c 3 = nI (dH D) → (∀ p, p < i → ax_i hh (c + 1) p = dpu D p) → (∀ p q, p < i → q < dH D → ax_i hh (c + 2) (p * 12 + q) = sp_vl D p q) → A (18, [some (.ref c), some (.ref r), some (.int (nI i)), o3, o4], [], hh, 0, 0) := by
    intro n
    induction n with
    | zero =>
      intro i hh o3 o4 hi hs e2 e3 eh ev
      have hO' := co_st_same hs hO
      obtain rfl : i = dP D := by omega
      refine vX0_begin_18 hA ⟨hO'.1, fun _ => hq hh hs ⟨hO', ⟨hP, hH⟩, e2, e3, eh, ev⟩, fun q => ?_⟩
      rw [e2] at q; exact absurd (nI_le (Nat.le_refl _) (by omega)) q
    | succ n ih =>
      intro i hh o3 o4 hi hs e2 e3 eh ev
      have hO' := co_st_same hs hO
      have hD' := rc_at_same hs hne hD
      obtain ⟨s0, r0, r1, s1, s2⟩ := id hO'
      obtain ⟨t0, ⟨-, -, q2, -, -⟩, -, -, t3, -, -⟩ := hD'.1
      refine vX0_begin_18 hA ⟨s0, fun q => ?_, fun _ => ⟨s0, _, r0, t0, _, q2, by rw [t3], by rw [t3]; exact vp_in_nI (by omega) (by decide), by rw [s1], by rw [s1]; exact vp_in_nI (by omega) (by decide), ?_⟩⟩
      · rw [e2] at q; exact absurd q (nI_ge (by omega) (by omega))
      · intro h5
        have hs5 : ax_same (co_F c) hh h5 := sm_pi f1
        have hD5 := rc_at_same hs5 hne hD'
        refine ⟨hD5.1.1, c_worthOfDeeds hD5 ⟨_, rfl, ?_⟩⟩
        have inner : ∀ k j : Nat, ∀ hj : ax_H, j + k = dH D → ax_same (co_F c) h hj → ax_i hj c 2 = nI (dP D) → ax_i hj c 3 = nI (dH D) → (∀ p, p < i + 1 → ax_i hj (c + 1) p = dpu D p) → (∀ p q, (p < i ∧ q < dH D) ∨ (p = i ∧ q < j) → ax_i hj (c + 2) (p * 12 + q) = sp_vl D p q) → A (47, [some (.ref c), some (.ref r), some (.int (nI i)), some (.int (sp_wd D (nI i))), some (.int (nI j))], [], hj, 0, 0) := by
          intro k
          induction k with
          | zero =>
            intro j hj hjk hsj e2j e3j ehj evj
            have hOj := co_st_same hsj hO
            refine vX0_begin_47 hA ⟨hOj.1, fun _ => ?_, fun q => ?_⟩
            · rw [← nI_succ]
              exact ih (i + 1) hj _ _ (by omega) hsj e2j e3j ehj (fun p q hp hq' => evj p q (by omega))
            · rw [e3j] at q; exact absurd (nI_le (by omega) (by omega)) q
          | succ k ihk =>
            intro j hj hjk hsj e2j e3j ehj evj
            have hOj := co_st_same hsj hO
            have hDj := rc_at_same hsj hne hD
            have s2j := hOj.2.2.2.2
            refine vX0_begin_47 hA ⟨hOj.1, fun q => ?_, fun _ => ⟨hOj.1, _, hOj.2.2.1, hDj.1.1, c_deedAt hDj ⟨_, rfl, hDj.1.1, c_extraOf hDj ⟨_, rfl, by rw [s2j], ?_, ?_⟩⟩⟩⟩
            · rw [e3j] at q; exact absurd q (nI_ge (by omega) (by omega))
            · rw [s2j, ni_12]; exact vp_in_nI (by omega) (by decide)
            · intro h16
              have hs16 : ax_same (co_F c) hj h16 := sm_pi f2
              have := ihk (j + 1) h16 (by omega) (sm_tr hsj hs16) (by
                  show ax_i (ax_pi hj (c + 2) _ _) c 2 = _
                  rw [ai_pi, if_neg (by omega)]; exact e2j) (by
                  show ax_i (ax_pi hj (c + 2) _ _) c 3 = _
                  rw [ai_pi, if_neg (by omega)]; exact e3j) (fun p hp => by
                  show ax_i (ax_pi hj (c + 2) _ _) (c + 1) p = _
                  rw [ai_pi, if_neg (by omega)]; exact ehj p hp) (fun p q hpq => by
                  show ax_i (ax_pi hj (c + 2) (nI i * 12 + nI j).toNatClampNeg _) (c + 2) (p * 12 + q) = _
                  rw [ai_pi, ni_12, nI_clamp (by omega)]
                  by_cases e : p = i ∧ q = j
                  · rw [if_pos ⟨rfl, by rw [e.1, e.2]⟩, e.1, e.2]; rfl
                  · rw [if_neg (by rintro ⟨-, z⟩; omega)]
                    exact evj p q (by omega))
              rw [nI_succ] at this
              exact this
        refine inner (dH D) 0 h5 (by omega) (sm_tr hs hs5) ?_ ?_ (fun p hp => ?_) (fun p q hpq => ?_)
        · show ax_i (ax_pi hh (c + 1) _ _) c 2 = _
          rw [ai_pi, if_neg (by omega)]; exact e2
        · show ax_i (ax_pi hh (c + 1) _ _) c 3 = _
          rw [ai_pi, if_neg (by omega)]; exact e3
        · show ax_i (ax_pi hh (c + 1) (nI i).toNatClampNeg _) (c + 1) p = _
          rw [ai_pi, nI_clamp (by omega)]
          by_cases e : p = i
          · rw [if_pos ⟨rfl, e⟩, e, hD'.2.2.2.2.2.1 i (by omega)]
          · rw [if_neg (fun z => e z.2)]; exact eh p (by omega)
        · show ax_i (ax_pi hh (c + 1) _ _) (c + 2) _ = _
          rw [ai_pi, if_neg (by omega)]; exact ev p q (by omega) (by omega)
  refine key (dP D) 0 h2 _ _ (by omega) hs2 ?_ ?_ (fun p hp => absurd hp (Nat.not_lt_zero p)) (fun p q hp => absurd hp (Nat.not_lt_zero p))
  · show ax_i (ax_pi h1 c 3 _) c 2 = _
    rw [ai_pi, if_neg (by omega)]
    show ax_i (ax_pi h c 2 _) c 2 = _
    rw [ai_pi, if_pos ⟨rfl, rfl⟩]; exact hD.2.2.1.2
  · show ax_i (ax_pi h1 c 3 _) c 3 = _
    rw [ai_pi, if_pos ⟨rfl, rfl⟩]; exact hD1.2.2.1.1
end
end

section
section
/-! the greatest common divisor, by Euclid -/
def gL (a b : Int64) : Int64 := lN (Nat.gcd a.toInt.natAbs b.toInt.natAbs)
def sp_sd (a b : Int64) (u : Int32) : Int64 := if u = 0 then a / gL a b else b / gL a b
theorem l_inj {x y : Int64} (h : x.toInt = y.toInt) : x = y := Int64.toInt_inj.mp h
theorem l_bd (x : Int64) : -9223372036854775808 ≤ x.toInt ∧ x.toInt < 9223372036854775808 := ⟨Int64.le_toInt x, Int64.toInt_lt x⟩
theorem l_of {x : Int64} (h : 0 ≤ x.toInt) : x = lN x.toInt.natAbs := by
  have := l_bd x
  refine l_inj ?_
  rw [pk_lT (by omega)]
  omega
theorem l_neg {x : Int64} (h : -9223372036854775808 < x.toInt) : (-x).toInt = -x.toInt := by
  have := l_bd x
  rw [Int64.toInt_neg]
  exact Int.bmod_eq_of_le (by omega) (by omega)
theorem l_lt {x y : Int64} : x < y ↔ x.toInt < y.toInt := Int64.lt_iff_toInt_lt
theorem l_le {x y : Int64} : x ≤ y ↔ x.toInt ≤ y.toInt := Int64.le_iff_toInt_le
theorem l_0 : (0 : Int64).toInt = 0 := rfl
theorem labs_eq {x : Int64} (h : -9223372036854775808 < x.toInt) : (if 0 < x then x else if x = 0 then x else -x) = lN x.toInt.natAbs := by
  split
  · rename_i h1
    rw [l_lt, l_0] at h1
    exact l_of (by omega)
  · rename_i h1
    rw [l_lt, l_0] at h1
    split
    · rename_i h2
      exact l_of (by rw [h2, l_0]; exact Int.le_refl _)
    · have hn := l_neg h
      rw [l_of (x := -x) (by rw [hn]; omega), hn, Int.natAbs_neg]
theorem lcmp_0 {x : Int64} : lg_cmp x 0 = 0 ↔ x = 0 := by
  unfold lg_cmp
  constructor
  · intro h
    split at h
    · cases h
    · split at h
      · assumption
      · cases h
  · rintro rfl
    rfl
theorem lcmp_neg {x : Int64} : 0 ≤ lg_cmp x 0 ↔ ¬ x < 0 := by
  unfold lg_cmp
  by_cases h1 : x > 0
  · rw [if_pos h1]
    refine ⟨fun _ h2 => ?_, fun _ => by decide⟩
    rw [gt_iff_lt, l_lt] at h1
    rw [l_lt] at h2
    omega
  · rw [if_neg h1]
    by_cases h2 : x = 0
    · rw [if_pos h2, h2]
      exact ⟨fun _ => by decide, fun _ => by decide⟩
    · rw [if_neg h2]
      refine ⟨fun h => absurd h (by decide), fun h => ?_⟩
      exfalso
      rw [gt_iff_lt, l_lt, l_0] at h1
      rw [l_lt, l_0] at h
      exact h2 (l_inj (by rw [l_0]; omega))
/-- the second number behind n steps -/
def eu : Nat → Nat → Nat → Nat
  | 0, _, b => b
  | n + 1, a, b => if b = 0 then 0 else eu n b (a % b)
def fbp : Nat → Nat × Nat
  | 0 => (1, 2)
  | n + 1 => ((fbp n).2, (fbp n).1 + (fbp n).2)
theorem eu_fb : ∀ n : Nat, (∀ a b, eu n a b ≠ 0 → (fbp n).1 ≤ b) ∧ ∀ a b, eu (n + 1) a b ≠ 0 → (fbp n).2 ≤ b := by
  intro n
  induction n with
  | zero =>
    refine ⟨fun a b h => Nat.pos_of_ne_zero h, fun a b h => ?_⟩
    unfold eu at h
    split at h
    · exact absurd rfl h
    · rename_i hb
      have h1 : a % b ≠ 0 := h
      have := Nat.mod_lt a (Nat.pos_of_ne_zero hb)
      show 2 ≤ b
      omega
  | succ n ih =>
    refine ⟨ih.2, fun a b h => ?_⟩
    unfold eu at h
    split at h
    · exact absurd rfl h
    · rename_i hb
      have h1 := ih.2 b (a % b) h
      unfold eu at h
      split at h
      · exact absurd rfl h
      · rename_i hc
        have h2 := ih.1 (a % b) (b % (a % b)) h
        have h3 := Nat.mod_lt a (Nat.pos_of_ne_zero hb)
        have h4 := Nat.div_add_mod b (a % b)
        have h5 : 1 ≤ b / (a % b) := (Nat.one_le_div_iff (Nat.pos_of_ne_zero hc)).mpr (Nat.le_of_lt h3)
        have h6 : (a % b) * 1 ≤ (a % b) * (b / (a % b)) := Nat.mul_le_mul_left _ h5
        show (fbp n).1 + (fbp n).2 ≤ b
        omega
theorem fb_100 : 9223372036854775808 ≤ (fbp 100).1 := by decide +kernel
theorem eu_100 {a b : Nat} (hb : b < 9223372036854775808) : eu 100 a b = 0 := by
  by_cases h : eu 100 a b = 0
  · exact h
  · have := (eu_fb 100).1 a b h
    have := fb_100
    omega
variable {g : ax_G} {Ret : Option Value → ax_H → Prop} {h : ax_H}
theorem c_divisor {a b : Int64} (ha : -9223372036854775808 < a.toInt) (hb : 0 < b.toInt) (hq : Ret (some (.long (gL a b))) h) : mX1_divisor g [.long a, .long b] h Ret := by
  have hbb := l_bd b
  have hab := l_bd a
  refine uX1_divisor (fun A hA => vX1_divisor_0 hA ?_)
  rw [labs_eq ha, labs_eq (by omega)]
  have hG : 1 ≤ Nat.gcd a.toInt.natAbs b.toInt.natAbs := Nat.gcd_pos_of_pos_right _ (by omega)
  have fin : ∀ x : Nat, x = Nat.gcd a.toInt.natAbs b.toInt.natAbs → x < 9223372036854775808 → (if (1 : Int64) < lN x then lN x else 1) = gL a b := by
    intro x hx hlt
    unfold gL
    rw [← hx] at hG ⊢
    by_cases e : x = 1
    · subst e; rfl
    · rw [if_pos (by rw [show (1 : Int64) = lN 1 from rfl, pk_lLT (by decide) (by omega)]; omega)]
  have key : ∀ n i x y : Nat, ∀ (o0 o1 o2 o3 o9 o10 : Option Value), i + n = 100 → x < 9223372036854775808 → y < 9223372036854775808 → eu n x y = 0 → Nat.gcd x y = Nat.gcd a.toInt.natAbs b.toInt.natAbs → A (15, [o0, o1, o2, o3, some (.long (lN x)), none, some (.long (lN y)), none, some (.int (nI i)), o9, o10], [], h, 0, 0) := by
    intro n
    induction n with
    | zero =>
      intro i x y o0 o1 o2 o3 o9 o10 hi hx hy he hg
      have hy0 : y = 0 := he
      subst hy0
      rw [Nat.gcd_zero_right] at hg
      refine vX1_divisor_15 hA ⟨fun _ => by rw [fin x hg hx]; exact hq, fun q => ⟨fun _ => by rw [fin x hg hx]; exact hq, fun q2 => absurd (lcmp_0.mpr rfl) q2⟩⟩
    | succ n ih =>
      intro i x y o0 o1 o2 o3 o9 o10 hi hx hy he hg
      refine vX1_divisor_15 hA ⟨fun q => ?_, fun _ => ⟨fun q => ?_, fun q => ?_⟩⟩
      · exact absurd q (nI_ge (a := i) (b := 100) (by omega) (by decide))
      · rw [lcmp_0] at q
        have hy0 : y = 0 := (pk_lEQ hy (by decide)).mp q
        subst hy0
        rw [Nat.gcd_zero_right] at hg
        rw [fin x hg hx]; exact hq
      · rw [lcmp_0] at q
        have hy0 : y ≠ 0 := fun z => q (by rw [z]; rfl)
        refine ⟨q, ?_⟩
        rw [pk_lRem hx (by omega) hy]
        have hm := Nat.mod_lt x (Nat.pos_of_ne_zero hy0)
        have := ih (i + 1) y (x % y) o0 o1 o2 (ax_k2 o3) (some (.long (lN (x % y)))) none (by omega) hy (by omega) (by unfold eu at he; rw [if_neg hy0] at he; exact he) (by rw [← hg, Nat.gcd_comm y, ← Nat.gcd_rec, Nat.gcd_comm])
        rw [nI_succ] at this
        exact this
  exact key 100 0 _ _ _ _ _ _ _ _ (by omega) (by omega) (by omega) (eu_100 (by omega)) rfl
theorem gL_ne0 {a b : Int64} (hb : 0 < b.toInt) : ¬ gL a b = 0 := by
  have hbb := l_bd b
  intro q
  have hG : 1 ≤ Nat.gcd a.toInt.natAbs b.toInt.natAbs := Nat.gcd_pos_of_pos_right _ (by omega)
  have hle : Nat.gcd a.toInt.natAbs b.toInt.natAbs ≤ b.toInt.natAbs := Nat.gcd_le_right _ (by omega)
  have := (pk_lEQ (a := Nat.gcd a.toInt.natAbs b.toInt.natAbs) (b := 0) (by omega) (by decide)).mp q
  omega
theorem c_side {a b : Int64} {u : Int32} (ha : -9223372036854775808 < a.toInt) (hb : 0 < b.toInt) (hq : Ret (some (.long (sp_sd a b u))) h) : mX1_side g [.long a, .long b, .int u] h Ret := by
  unfold sp_sd at hq
  refine eX1_side (c_divisor ha hb ⟨_, rfl, fun h1 => ⟨gL_ne0 hb, ?_⟩, fun h1 => ⟨gL_ne0 hb, ?_⟩⟩)
  · rw [if_pos h1] at hq; exact hq
  · rw [if_neg h1] at hq; exact hq
theorem c_common {a b : Int64} (ha : -9223372036854775808 < a.toInt) (hb : 0 < b.toInt) (hq : Ret (some (.long (gL a b))) h) : mX10_common g [.long a, .long b] h Ret := by
  have hbb := l_bd b
  have hab := l_bd a
  refine uX10_common (fun A hA => vX10_common_0 hA ?_)
  have key : ∀ y : Nat, ∀ x : Nat, ∀ (o0 o1 o2 o3 o8 o9 : Option Value), x < 9223372036854775808 → y < 9223372036854775808 → Nat.gcd x y = Nat.gcd a.toInt.natAbs b.toInt.natAbs → A (17, [o0, o1, o2, o3, some (.long (lN x)), none, some (.long (lN y)), none, o8, o9], [], h, 0, 0) := by
    intro y
    induction y using Nat.strongRecOn with
    | ind y ih =>
      intro x o0 o1 o2 o3 o8 o9 hx hy hg
      refine vX10_common_17 hA ⟨fun q => ?_, fun q => ?_⟩
      · rw [lcmp_0] at q
        have hy0 : y = 0 := (pk_lEQ hy (by decide)).mp q
        subst hy0
        rw [Nat.gcd_zero_right] at hg
        rw [hg]; exact hq
      · rw [lcmp_0] at q
        have hy0 : y ≠ 0 := fun z => q (by rw [z]; rfl)
        refine ⟨q, ?_⟩
        rw [pk_lRem hx (by omega) hy]
        have hm := Nat.mod_lt x (Nat.pos_of_ne_zero hy0)
        exact ih (x % y) hm y o0 o1 o2 (ax_k2 o3) _ _ hy (by omega) (by rw [← hg, Nat.gcd_comm y, ← Nat.gcd_rec, Nat.gcd_comm])
  have eb : b = lN b.toInt.natAbs := l_of (by omega)
  refine ⟨fun h1 => ?_, fun h1 => ?_⟩
  · rw [lcmp_neg, l_lt, l_0] at h1
    have ea : a = lN a.toInt.natAbs := l_of (by omega)
    have := key b.toInt.natAbs a.toInt.natAbs (some (.long a)) none (some (.long b)) none none none (by omega) (by omega) rfl
    rw [← ea, ← eb] at this
    exact this
  · rw [lcmp_neg, l_lt, l_0] at h1
    have hn := l_neg ha
    have ea : -a = lN a.toInt.natAbs := by rw [l_of (x := -a) (by rw [hn]; omega), hn, Int.natAbs_neg]
    have := key b.toInt.natAbs a.toInt.natAbs (some (.long a)) none (some (.long b)) none none none (by omega) (by omega) rfl
    rw [← ea, ← eb] at this
    exact this
theorem c_part {a b : Int64} {u : Int32} (ha : -9223372036854775808 < a.toInt) (hb : 0 < b.toInt) (hq : Ret (some (.long (sp_sd a b u))) h) : mX10_part g [.long a, .long b, .int u] h Ret := by
  unfold sp_sd at hq
  refine eX10_part (c_common ha hb ⟨_, rfl, fun h1 => ⟨gL_ne0 hb, ?_⟩, fun h1 => ⟨gL_ne0 hb, ?_⟩⟩)
  · rw [if_pos h1] at hq; exact hq
  · rw [if_neg h1] at hq; exact hq
end
end

section
section
/-! the reference: its rows by place (field, kind, length), behind its object at m -/
def mo_tab : List (Nat × Nat × Nat) := [(1, 12, 2400), (2, 11, 4), (3, 11, 4), (4, 11, 4), (5, 11, 20), (6, 11, 1312), (7, 11, 120), (8, 11, 152), (9, 11, 136), (10, 11, 152), (20, 11, 164), (21, 11, 3), (28, 11, 6), (29, 11, 72), (30, 11, 72), (31, 11, 12), (40, 11, 12), (43, 14, 28672), (44, 11, 6), (48, 11, 8), (52, 11, 3), (53, 11, 3), (54, 11, 60), (55, 11, 6), (58, 13, 3)]
def mo_st (h : ax_H) (m : Nat) : Prop := (ax_s h m).1 = 10 ∧ ∀ j q, mo_tab[j]? = some q → ax_r h m q.1 = some (m + 1 + j) ∧ ax_s h (m + 1 + j) = q.2
theorem mo_st_same {F : Nat → Prop} {h h' : ax_H} {m : Nat} (hs : ax_same F h h') (a : mo_st h m) : mo_st h' m := ⟨by rw [hs.2.1]; exact a.1, fun j q hj => ⟨by rw [hs.2.2.1]; exact (a.2 j q hj).1, by rw [hs.2.1]; exact (a.2 j q hj).2⟩⟩
theorem mo_pu {h : ax_H} {m : Nat} (a : mo_st h m) : ax_r h m 28 = some (m + 13) ∧ ax_s h (m + 13) = (11, 6) := a.2 12 _ rfl
theorem mo_de {h : ax_H} {m : Nat} (a : mo_st h m) : ax_r h m 29 = some (m + 14) ∧ ax_s h (m + 14) = (11, 72) := a.2 13 _ rfl
theorem mo_va {h : ax_H} {m : Nat} (a : mo_st h m) : ax_r h m 30 = some (m + 15) ∧ ax_s h (m + 15) = (11, 72) := a.2 14 _ rfl
theorem mo_we {h : ax_H} {m : Nat} (a : mo_st h m) : ax_r h m 31 = some (m + 16) ∧ ax_s h (m + 16) = (11, 12) := a.2 15 _ rfl
theorem mo_re {h : ax_H} {m : Nat} (a : mo_st h m) : ax_r h m 6 = some (m + 6) ∧ ax_s h (m + 6) = (11, 1312) := a.2 5 _ rfl
theorem mo_ma {h : ax_H} {m : Nat} (a : mo_st h m) : ax_r h m 5 = some (m + 5) ∧ ax_s h (m + 5) = (11, 20) := a.2 4 _ rfl
/-- fields of m but those of J, and cells but those of F, are as they were -/
def mr (J F : Nat → Prop) (m : Nat) (h h' : ax_H) : Prop := ax_same (fun a => a = m ∨ F a) h h' ∧ ∀ j, ¬ J j → ax_i h' m j = ax_i h m j ∧ ax_l h' m j = ax_l h m j
theorem mr_rf {J F : Nat → Prop} {m : Nat} {h : ax_H} : mr J F m h h := ⟨sm_rf, fun _ _ => ⟨rfl, rfl⟩⟩
theorem mr_tr {J F : Nat → Prop} {m : Nat} {h h1 h2 : ax_H} (a : mr J F m h h1) (b : mr J F m h1 h2) : mr J F m h h2 := ⟨sm_tr a.1 b.1, fun j hj => ⟨((b.2 j hj).1).trans (a.2 j hj).1, ((b.2 j hj).2).trans (a.2 j hj).2⟩⟩
theorem mr_mono {J F J' F' : Nat → Prop} {m : Nat} {h h1 : ax_H} (a : mr J F m h h1) (i : ∀ x, J x → J' x) (k : ∀ x, F x → F' x) : mr J' F' m h h1 := ⟨sm_mono a.1 (fun x q => q.imp_right (k x)), fun j hj => a.2 j (fun q => hj (i j q))⟩
theorem mr_f {J F : Nat → Prop} {m : Nat} {h : ax_H} {k : Nat} {v : Int32} (hJ : J k) : mr J F m h (ax_pi h m k v) := ⟨sm_pi (Or.inl rfl), fun j hj => ⟨by rw [ai_pi, if_neg (fun (q : m = m ∧ j = k) => hj (q.2.symm ▸ hJ))], rfl⟩⟩
theorem mr_l {J F : Nat → Prop} {m : Nat} {h : ax_H} {k : Nat} {v : Int64} (hJ : J k) : mr J F m h (ax_pl h m k v) := ⟨sm_pl (Or.inl rfl), fun j hj => ⟨rfl, by rw [al_pl, if_neg (fun (q : m = m ∧ j = k) => hj (q.2.symm ▸ hJ))]⟩⟩
theorem mr_c {J F : Nat → Prop} {m a : Nat} {h : ax_H} {k : Nat} {v : Int32} (hF : F a) (hne : a ≠ m) : mr J F m h (ax_pi h a k v) := ⟨sm_pi (Or.inr hF), fun j _ => ⟨by rw [ai_pi, if_neg (fun (q : m = a ∧ j = k) => hne q.1.symm)], rfl⟩⟩
theorem mr_st {J F : Nat → Prop} {m : Nat} {h h' : ax_H} (a : mr J F m h h') (b : mo_st h m) : mo_st h' m := mo_st_same a.1 b
/-- a republic in the reference's row, from place B on -/
def rm_at (h : ax_H) (m B : Nat) (D : rD) : Prop := (dH D ≤ 12 ∧ dP D ≤ 6) ∧ ax_i h (m + 6) B = nI (dH D) ∧ ax_i h (m + 6) (B + 1) = nI (dP D) ∧ (∀ p, p < dP D → ax_i h (m + 6) (B + 2 + p) = dpu D p) ∧ (∀ k, k < 6 → ax_i h (m + 6) (B + 8 + k) = dwo D k) ∧ (∀ k, k < 6 → ax_i h (m + 6) (B + 14 + k) = dmo D k) ∧ (∀ p q, p < dP D → q < dH D → ax_i h (m + 6) (B + 20 + 12 * p + q) = dde D p q) ∧ ∀ p q, p < dP D → q < dH D → ax_i h (m + 6) (B + 92 + 12 * p + q) = dlo D p q
theorem rm_at_same {F : Nat → Prop} {h h' : ax_H} {m B : Nat} {D : rD} (hs : ax_same F h h') (hF : ¬ F (m + 6)) (a : rm_at h m B D) : rm_at h' m B D := by
  have e := (hs.2.2.2 _ hF).1
  unfold rm_at
  simp only [e]
  exact a
theorem ni_21 {p q : Nat} : (12 : Int32) * nI p + nI q = nI (12 * p + q) := by
  rw [show (12 : Int32) = nI 12 from rfl, pk_mul, nI_add]
theorem ni_c (k q : Nat) : (OfNat.ofNat k : Int32) + nI q = nI (k + q) := by
  rw [show (OfNat.ofNat k : Int32) = nI k from rfl, nI_add]
/-- the republic in hand: its number, its data, the modes that hold -/
def mb_at (h : ax_H) (m ρ : Nat) (D : rD) (mo : Nat → Int32) : Prop := mo_st h m ∧ ρ < 2 ∧ rm_at h m (164 * ρ) D ∧ ax_i h m 25 = nI ρ ∧ ax_i h m 26 = nI (dH D) ∧ ax_i h m 27 = nI (dP D) ∧ ∀ k, k < 6 → (if nI k = ax_i h m 34 then ax_i h m 35 else dmo D k) = mo k
theorem mb_at_mr {J F : Nat → Prop} {h h' : ax_H} {m ρ : Nat} {D : rD} {mo : Nat → Int32} (hs : mr J F m h h') (hJ : ¬ J 25 ∧ ¬ J 26 ∧ ¬ J 27 ∧ ¬ J 34 ∧ ¬ J 35) (hF : ¬ F (m + 6)) (a : mb_at h m ρ D mo) : mb_at h' m ρ D mo := by
  obtain ⟨a1, a2, a3, a4, a5, a6, a7⟩ := a
  exact ⟨mr_st hs a1, a2, rm_at_same hs.1 (fun q => q.elim (by omega) hF) a3, by rw [(hs.2 _ hJ.1).1]; exact a4, by rw [(hs.2 _ hJ.2.1).1]; exact a5, by rw [(hs.2 _ hJ.2.2.1).1]; exact a6, fun k hk => by rw [(hs.2 _ hJ.2.2.2.1).1, (hs.2 _ hJ.2.2.2.2).1]; exact a7 k hk⟩
theorem mr_e {J F : Nat → Prop} {m x : Nat} {h h' : ax_H} (hs : mr J F m h h') (h1 : x ≠ m) (h2 : ¬ F x) (k : Nat) : ax_i h' x k = ax_i h x k := (hs.1.2.2.2 x (fun q => q.elim h1 h2)).1 k
/-- and purses, deeds and values as they stand -/
def mc_at (h : ax_H) (m ρ : Nat) (D : rD) (mo pu : Nat → Int32) (vl : Nat → Nat → Int32) : Prop := mb_at h m ρ D mo ∧ (∀ p, p < dP D → ax_i h (m + 13) p = pu p) ∧ (∀ p q, p < dP D → q < dH D → ax_i h (m + 14) (12 * p + q) = dde D p q) ∧ ∀ p q, p < dP D → q < dH D → ax_i h (m + 15) (12 * p + q) = vl p q
theorem mc_at_mr {J F : Nat → Prop} {h h' : ax_H} {m ρ : Nat} {D : rD} {mo pu : Nat → Int32} {vl : Nat → Nat → Int32} (hs : mr J F m h h') (hJ : ¬ J 25 ∧ ¬ J 26 ∧ ¬ J 27 ∧ ¬ J 34 ∧ ¬ J 35) (hF : ¬ F (m + 6) ∧ ¬ F (m + 13) ∧ ¬ F (m + 14) ∧ ¬ F (m + 15)) (a : mc_at h m ρ D mo pu vl) : mc_at h' m ρ D mo pu vl :=
  ⟨mb_at_mr hs hJ hF.1 a.1, fun p hp => by rw [mr_e hs (by omega) hF.2.1]; exact a.2.1 p hp, fun p q hp hq => by rw [mr_e hs (by omega) hF.2.2.1]; exact a.2.2.1 p q hp hq, fun p q hp hq => by rw [mr_e hs (by omega) hF.2.2.2]; exact a.2.2.2 p q hp hq⟩
variable {g : ax_G} {Ret : Option Value → ax_H → Prop} {h : ax_H} {m ρ : Nat} {D : rD} {mo pu : Nat → Int32} {vl : Nat → Nat → Int32}
theorem c_min {x y z : Int32} (hq : Ret (some (.int (b2i (decide (y ≤ x ∧ x ≤ z))))) h) : mX10_in g [.int x, .int y, .int z] h Ret := by
  unfold b2i at hq
  refine eX10_in ⟨fun h1 => ⟨Or.inl rfl, ?_⟩, fun h1 => ⟨fun h2 => ⟨Or.inl rfl, ?_⟩, fun h2 => ⟨Or.inr rfl, ?_⟩⟩⟩
  · rw [decide_eq_false (fun q => absurd h1 (nt_lt.mpr q.1))] at hq; exact hq
  · rw [decide_eq_false (fun q => absurd h2 (nt_lt.mpr q.2))] at hq; exact hq
  · rw [decide_eq_true ⟨nt_lt.mp h1, nt_lt.mp h2⟩] at hq; exact hq
theorem b01 {b : Bool} : b2i b = 0 ∨ b2i b = 1 := by cases b <;> decide
theorem i_inN {x : Int32} {n : Nat} (hn : n < 2 ^ 31) : (0 ≤ x ∧ x ≤ nI n - 1) ↔ (0 ≤ x ∧ x < nI n) := by
  constructor
  · rintro ⟨h1, h2⟩
    refine ⟨h1, ?_⟩
    cases n with
    | zero => exact absurd (Int32.le_trans h1 h2) (by decide)
    | succ n =>
      rw [nI_pred] at h2
      exact Int32.lt_of_le_of_lt h2 (nI_lt (Nat.lt_succ_self n) hn)
  · rintro ⟨h1, h2⟩
    refine ⟨h1, ?_⟩
    obtain ⟨j, hj, rfl⟩ := (ni_ix hn).mp ⟨nt_lt.mpr h1, nt_le.mpr h2⟩
    cases n with
    | zero => exact absurd hj (Nat.not_lt_zero j)
    | succ n => rw [nI_pred]; exact nI_le (by omega) (by omega)
theorem c_minN {x : Int32} {n : Nat} (hn : n < 2 ^ 31) (hq : Ret (some (.int (b2i (sp_in x n)))) h) : mX10_in g [.int x, .int 0, .int (nI n - 1)] h Ret := by
  refine c_min ?_
  unfold sp_in at hq
  rw [show decide (0 ≤ x ∧ x ≤ nI n - 1) = decide (0 ≤ x ∧ x < nI n) from decide_eq_decide.mpr (i_inN hn)]
  exact hq
theorem c_mis {s n : Nat} {x : Int32} (a : mo_st h m) (hs : s < 5) (hn : n ≤ 2) (hm : ax_i h (m + 5) s = nI n) (hq : Ret (some (.int (b2i (sp_in x n)))) h) : mX10_is g [.ref m, .int (nI s), .int x] h Ret := by
  obtain ⟨e1, e2⟩ := mo_ma a
  refine eX10_is ⟨a.1, _, e1, by rw [e2], by rw [e2]; exact vp_in_nI (by omega) (by decide), ?_⟩
  rw [nI_clamp (by omega), hm]
  exact c_minN (by omega) ⟨_, rfl, b01, hq⟩
theorem c_mof {i : Nat} {x : Int32} (a : mo_st h m) (hρ : ρ < 2) (he : ax_i h m 25 = nI ρ) (hi : i < 164) (hx : x = nI i) (hq : Ret (some (.int (ax_i h (m + 6) (164 * ρ + i)))) h) : mX10_of g [.ref m, .int x] h Ret := by
  obtain ⟨e1, e2⟩ := mo_re a
  subst hx
  have ei : (164 : Int32) * nI ρ + nI i = nI (164 * ρ + i) := by rw [show (164 : Int32) = nI 164 from rfl, pk_mul, nI_add]
  refine eX10_of ⟨a.1, _, e1, a.1, by rw [e2], ?_, ?_⟩
  · rw [he, ei, e2]; exact vp_in_nI (by omega) (by decide)
  · rw [he, ei, nI_clamp (by omega)]; exact hq
theorem c_mmode {k : Nat} (a : mb_at h m ρ D mo) (hk : k < 6) (hq : Ret (some (.int (mo k))) h) : mX10_modeOf g [.ref m, .int (nI k)] h Ret := by
  obtain ⟨a1, a2, a3, a4, -, -, a7⟩ := a
  have e := a7 k hk
  refine eX10_modeOf ⟨a1.1, fun h1 => ⟨a1.1, c_mof (i := 14 + k) a1 a2 a4 (by omega) (ni_c 14 k) ⟨_, rfl, ?_⟩⟩, fun h1 => ⟨a1.1, ?_⟩⟩
  · rw [if_neg h1] at e
    rw [← Nat.add_assoc, a3.2.2.2.2.2.1 k hk, e]; exact hq
  · rw [if_pos h1] at e
    rw [e]; exact hq
def sp_ti (m l : Int32) : Int32 := if m = 0 then l else if m = 1 then 1 else 0
theorem c_mtimes {x y : Int32} (hq : Ret (some (.int (sp_ti x y))) h) : mX10_times g [.int x, .int y] h Ret := by
  unfold sp_ti at hq
  refine eX10_times ⟨fun h1 => ⟨fun h2 => ?_, fun h2 => ?_⟩, fun h1 => ?_⟩
  · rw [if_neg h1, if_neg h2] at hq; exact hq
  · rw [if_neg h1, if_pos h2] at hq; exact hq
  · rw [if_pos h1] at hq; exact hq
/-- what a deed brings in an hour lived so often -/
def sp_mw (D : rD) (mo : Nat → Int32) (p q : Nat) (l : Int32) : Int32 := if dde D p q = -1 then 0 else dwo D (dde D p q).toNatClampNeg * (if l = 1 then 1 else sp_ti (mo (dde D p q).toNatClampNeg) l)
theorem c_mworth {p q : Nat} {l : Int32} (a : mb_at h m ρ D mo) (a9 : ax_i h (m + 14) (12 * p + q) = dde D p q) (hd : dde D p q = -1 ∨ ∃ k : Nat, k < 6 ∧ dde D p q = nI k) (hp : p < dP D) (hq0 : q < dH D) (hq : Ret (some (.int (sp_mw D mo p q l))) h) : mX10_worthOf g [.ref m, .int (nI p), .int (nI q), .int l] h Ret := by
  obtain ⟨a1, a2, a3, a4, -, -, -⟩ := id a
  obtain ⟨e1, e2⟩ := mo_de a1
  have hb := a3.1
  unfold sp_mw at hq
  have ei : (12 : Int32) * nI p + nI q = nI (12 * p + q) := ni_21
  refine eX10_worthOf ⟨a1.1, _, e1, by rw [e2], ?_, fun h1 => ?_, fun h1 => ?_⟩
  · rw [ei, e2]; exact vp_in_nI (by omega) (by decide)
  · rw [ei, nI_clamp (by omega), a9] at h1 ⊢
    obtain ⟨k, hk, hd⟩ := hd.resolve_left h1
    rw [if_neg h1, hd, nI_clamp (by omega)] at hq
    rw [hd]
    refine ⟨a1.1, c_mof (i := 8 + k) a1 a2 a4 (by omega) (ni_c 8 k) ⟨_, rfl, ?_⟩⟩
    rw [← Nat.add_assoc, a3.2.2.2.2.1 k hk]
    refine ⟨fun h2 => ⟨a1.1, c_mmode a hk ⟨_, rfl, c_mtimes ⟨_, rfl, ?_⟩⟩⟩, fun h2 => ?_⟩
    · rw [if_neg h2] at hq; exact hq
    · rw [if_pos h2] at hq; exact hq
  · rw [ei, nI_clamp (by omega), a9] at h1
    rw [if_pos h1] at hq; exact hq
end
end

section
section
variable {g : ax_G} {Ret : Option Value → ax_H → Prop} {h : ax_H} {m ρ : Nat} {D : rD} {mo pu : Nat → Int32} {vl : Nat → Nat → Int32}
/-- how often an hour is lived -/
def sp_lv (a b : Int32) (q : Nat) : Int32 := (1 + (if nI q = a then 1 else 0)) + (if nI q = b then 1 else 0)
def sp_vb (D : rD) (mo : Nat → Int32) (p : Nat) (a b : Int32) : Int32 := sumN (fun q => sp_mw D mo p q (sp_lv a b q)) (dH D)
def rd_de (D : rD) : Prop := ∀ p q, p < dP D → q < dH D → dde D p q = -1 ∨ ∃ k : Nat, k < 6 ∧ dde D p q = nI k
theorem c_mvalueBy {p : Nat} {x y : Int32} (a : mb_at h m ρ D mo) (hd : rd_de D) (hp : p < dP D) (a9 : ∀ q, q < dH D → ax_i h (m + 14) (12 * p + q) = dde D p q) (hq : Ret (some (.int (sp_vb D mo p x y))) h) : mX10_valueBy g [.ref m, .int (nI p), .int x, .int y] h Ret := by
  have s0 := a.1.1
  have e26 := a.2.2.2.2.1
  have hH := a.2.2.1.1.1
  refine uX10_valueBy (fun A hA => vX10_valueBy_0 hA ?_)
  have key : ∀ n i : Nat, ∀ o6 : Option Value, i + n = dH D → A (6, [some (.ref m), some (.int (nI p)), some (.int x), some (.int y), some (.int (sumN (fun q => sp_mw D mo p q (sp_lv x y q)) i)), some (.int (nI i)), o6], [], h, 0, 0) := by
    intro n
    induction n with
    | zero =>
      intro i o6 hi
      refine vX10_valueBy_6 hA ⟨s0, fun _ => ?_, fun q => ?_⟩
      · rw [show i = dH D by omega]; exact hq
      · rw [e26] at q; exact absurd (nI_le (by omega) (by omega)) q
    | succ n ih =>
      intro i o6 hi
      have nx : ∀ l : Int32, l = sp_lv x y i → A (6, [some (.ref m), some (.int (nI p)), some (.int x), some (.int y), some (.int (sumN (fun q => sp_mw D mo p q (sp_lv x y q)) i + sp_mw D mo p i l)), some (.int (nI i + 1)), some (.int l)], [], h, 0, 0) := by
        rintro l rfl
        have := ih (i + 1) (some (.int (sp_lv x y i))) (by omega)
        rw [nI_succ] at this
        exact this
      refine vX10_valueBy_6 hA ⟨s0, fun q => ?_, fun _ => ⟨fun h1 => ⟨fun h2 => ⟨s0, c_mworth a (a9 i (by omega)) (hd p i hp (by omega)) hp (by omega) ⟨_, rfl, nx _ ?_⟩⟩, fun h2 => ⟨s0, c_mworth a (a9 i (by omega)) (hd p i hp (by omega)) hp (by omega) ⟨_, rfl, nx _ ?_⟩⟩⟩, fun h1 => ⟨fun h2 => ⟨s0, c_mworth a (a9 i (by omega)) (hd p i hp (by omega)) hp (by omega) ⟨_, rfl, nx _ ?_⟩⟩, fun h2 => ⟨s0, c_mworth a (a9 i (by omega)) (hd p i hp (by omega)) hp (by omega) ⟨_, rfl, nx _ ?_⟩⟩⟩⟩⟩
      · rw [e26] at q; exact absurd q (nI_ge (by omega) (by omega))
      · unfold sp_lv; rw [if_neg h1, if_neg h2]
      · unfold sp_lv; rw [if_neg h1, if_pos h2]
      · unfold sp_lv; rw [if_pos h1, if_neg h2]
      · unfold sp_lv; rw [if_pos h1, if_pos h2]
  exact key (dH D) 0 _ (by omega)
def noJ : Nat → Prop := fun _ => False
theorem c_mlayValues {p : Nat} (a : mb_at h m ρ D mo) (hd : rd_de D) (hp : p < dP D) (a9 : ∀ q, q < dH D → ax_i h (m + 14) (12 * p + q) = dde D p q) (hq : ∀ h', mr noJ (fun a => a = m + 15) m h h' → (∀ j, ax_i h' (m + 15) j = if 12 * p ≤ j ∧ j < 12 * p + dH D then sp_vb D mo p (nI (j - 12 * p)) (-1) else ax_i h (m + 15) j) → Ret none h') : mX10_layValues g [.ref m, .int (nI p)] h Ret := by
  have hb := a.2.2.1.1
  refine uX10_layValues (fun A hA => vX10_layValues_0 hA ?_)
  have key : ∀ n i : Nat, ∀ hh : ax_H, i + n = dH D → mr noJ (fun a => a = m + 15) m h hh → (∀ j, ax_i hh (m + 15) j = if 12 * p ≤ j ∧ j < 12 * p + i then sp_vb D mo p (nI (j - 12 * p)) (-1) else ax_i h (m + 15) j) → A (2, [some (.ref m), some (.int (nI p)), some (.int (nI i))], [], hh, 0, 0) := by
    intro n
    induction n with
    | zero =>
      intro i hh hi hs hv
      have a' : mb_at hh m ρ D mo := mb_at_mr hs ⟨id, id, id, id, id⟩ (by omega) a
      refine vX10_layValues_2 hA ⟨a'.1.1, fun _ => hq hh hs (by rw [← show i = dH D by omega]; exact hv), fun q => ?_⟩
      rw [a'.2.2.2.2.1] at q; exact absurd (nI_le (by omega) (by omega)) q
    | succ n ih =>
      intro i hh hi hs hv
      have a' : mb_at hh m ρ D mo := mb_at_mr hs ⟨id, id, id, id, id⟩ (by omega) a
      obtain ⟨e1, e2⟩ := mo_va a'.1
      have s0 := a'.1.1
      have ei : (12 : Int32) * nI p + nI i = nI (12 * p + i) := ni_21
      refine vX10_layValues_2 hA ⟨s0, fun q => ?_, fun _ => ⟨s0, _, e1, s0, c_mvalueBy a' hd hp (fun q hq' => by rw [mr_e hs (by omega) (by omega)]; exact a9 q hq') ⟨_, rfl, by rw [e2], by rw [ei, e2]; exact vp_in_nI (by omega) (by decide), ?_⟩⟩⟩
      · rw [a'.2.2.2.2.1] at q; exact absurd q (nI_ge (by omega) (by omega))
      · intro h5
        have := ih (i + 1) h5 (by omega) (mr_tr hs (mr_c rfl (by omega))) (fun j => by
          show ax_i (ax_pi hh (m + 15) (12 * nI p + nI i).toNatClampNeg _) (m + 15) j = _
          rw [ai_pi, ei, nI_clamp (by omega)]
          by_cases e : j = 12 * p + i
          · rw [if_pos ⟨rfl, e⟩, if_pos (by omega), e, Nat.add_sub_cancel_left]
          · rw [if_neg (fun z => e z.2), hv j]
            by_cases e2 : 12 * p ≤ j ∧ j < 12 * p + i
            · rw [if_pos e2, if_pos (by omega)]
            · rw [if_neg e2, if_neg (by omega)])
        rw [nI_succ] at this
        exact this
  exact key (dH D) 0 h (by omega) mr_rf (fun j => by rw [if_neg (by omega)])
/-- the odds as the reference has them -/
def mw_at (h : ax_H) (m H : Nat) (w : Nat → Int32) (t po : Int32) : Prop := (∀ q, q < H → ax_i h (m + 16) q = w q) ∧ ax_i h m 32 = t ∧ ax_i h m 33 = po
theorem c_mlayOdds (a : mb_at h m ρ D mo) (hpu : ∀ p, p < dP D → ax_i h (m + 13) p = pu p) (hq : ∀ h', mr (fun j => j = 32 ∨ j = 33) (fun a => a = m + 16) m h h' → mw_at h' m (dH D) (sp_w D (sp_po (dP D) pu)) (sp_t D (sp_po (dP D) pu)) (sp_po (dP D) pu) → Ret none h') : mX10_layOdds g [.ref m] h Ret := by
  obtain ⟨hH, hP⟩ := a.2.2.1.1
  have J32 : (fun j : Nat => j = 32 ∨ j = 33) 32 := Or.inl rfl
  have J33 : (fun j : Nat => j = 32 ∨ j = 33) 33 := Or.inr rfl
  have am : ∀ hh : ax_H, mr (fun j => j = 32 ∨ j = 33) (fun a => a = m + 16) m h hh → mb_at hh m ρ D mo := fun hh hs => mb_at_mr hs (by decide) (by omega) a
  refine uX10_layOdds (fun A hA => vX10_layOdds_0 hA ⟨a.1.1, ?_⟩)
  intro h1
  -- the third loop: all weights one
  have loop3 : ∀ n i : Nat, ∀ hh : ax_H, i + n = dH D → mr (fun j => j = 32 ∨ j = 33) (fun a => a = m + 16) m h hh → sp_ws D (sp_po (dP D) pu) = 0 → ax_i hh m 33 = sp_po (dP D) pu → (∀ q, q < i → ax_i hh (m + 16) q = 1) → A (138, [some (.ref m), some (.int (nI i))], [], hh, 0, 0) := by
    intro n
    induction n with
    | zero =>
      intro i hh hi hs h0 e33 ew
      have a' := am hh hs
      refine vX10_layOdds_138 hA ⟨a'.1.1, fun _ => ⟨a'.1.1, a'.1.1, ?_⟩, fun q => ?_⟩
      · intro h18
        refine hq h18 (mr_tr hs (mr_f J32)) ⟨fun q hq' => ?_, ?_, ?_⟩
        · show ax_i (ax_pi hh m 32 _) (m + 16) q = _
          rw [ai_pi, if_neg (by omega), ew q (by omega)]; unfold sp_w; rw [if_pos h0]
        · show ax_i (ax_pi hh m 32 _) m 32 = _
          rw [ai_pi, if_pos ⟨rfl, rfl⟩, a'.2.2.2.2.1]; unfold sp_t; rw [if_pos h0]
        · show ax_i (ax_pi hh m 32 _) m 33 = _
          rw [ai_pi, if_neg (by omega)]; exact e33
      · rw [a'.2.2.2.2.1] at q; exact absurd (nI_le (by omega) (by omega)) q
    | succ n ih =>
      intro i hh hi hs h0 e33 ew
      have a' := am hh hs
      obtain ⟨e1, e2⟩ := mo_we a'.1
      refine vX10_layOdds_138 hA ⟨a'.1.1, fun q => ?_, fun _ => ⟨a'.1.1, _, e1, by rw [e2], by rw [e2]; exact vp_in_nI (by omega) (by decide), ?_⟩⟩
      · rw [a'.2.2.2.2.1] at q; exact absurd q (nI_ge (by omega) (by omega))
      · intro h20
        have := ih (i + 1) h20 (by omega) (mr_tr hs (mr_c rfl (by omega))) h0 (by
          show ax_i (ax_pi hh (m + 16) _ _) m 33 = _
          rw [ai_pi, if_neg (by omega)]; exact e33) (fun q hq' => by
          show ax_i (ax_pi hh (m + 16) (nI i).toNatClampNeg 1) (m + 16) q = _
          rw [ai_pi, nI_clamp (by omega)]
          by_cases e : q = i
          · rw [if_pos ⟨rfl, e⟩]
          · rw [if_neg (fun z => e z.2)]; exact ew q (by omega))
        rw [nI_succ] at this
        exact this
  -- the second: the lots, or ones where nobody is
  have nobody : sp_po (dP D) pu = -1 → sp_ws D (sp_po (dP D) pu) = 0 := by
    intro hz
    unfold sp_ws
    rw [hz]
    have : ∀ n, sumN (fun q => sp_lo D (-1) (nI q)) n = 0 := by
      intro n
      induction n with
      | zero => rfl
      | succ n ih =>
        show sumN (fun q => sp_lo D (-1) (nI q)) n + sp_lo D (-1) (nI n) = 0
        rw [ih]
        unfold sp_lo sp_in
        rw [show decide ((0 : Int32) ≤ -1 ∧ -1 < nI (dP D)) = false from decide_eq_false (fun q => absurd q.1 (by decide))]
        rfl
    exact this _
  have loop2 : ∀ n i : Nat, ∀ hh : ax_H, i + n = dH D → mr (fun j => j = 32 ∨ j = 33) (fun a => a = m + 16) m h hh → ax_i hh m 33 = sp_po (dP D) pu → (sp_po (dP D) pu = -1 → ax_i hh m 32 = nI i ∧ ∀ q, q < i → ax_i hh (m + 16) q = 1) → (¬ sp_po (dP D) pu = -1 → ax_i hh m 32 = sumN (fun q => sp_lo D (sp_po (dP D) pu) (nI q)) i ∧ ∀ q, q < i → ax_i hh (m + 16) q = sp_lo D (sp_po (dP D) pu) (nI q)) → A (66, [some (.ref m), some (.int (nI i))], [], hh, 0, 0) := by
    intro n
    induction n with
    | zero =>
      intro i hh hi hs e33 c1 c2
      have a' := am hh hs
      obtain rfl : i = dH D := by omega
      refine vX10_layOdds_66 hA ⟨a'.1.1, fun _ => ⟨a'.1.1, fun q => ?_, fun q => ?_⟩, fun q => ?_⟩
      · by_cases hz : sp_po (dP D) pu = -1
        · obtain ⟨d1, d2⟩ := c1 hz
          have h0 := nobody hz
          exact hq hh hs ⟨fun k hk => by rw [d2 k hk]; unfold sp_w; rw [if_pos h0], by rw [d1]; unfold sp_t; rw [if_pos h0], e33⟩
        · obtain ⟨d1, d2⟩ := c2 hz
          rw [d1] at q
          have q : ¬ sp_ws D (sp_po (dP D) pu) = 0 := q
          exact hq hh hs ⟨fun k hk => by rw [d2 k hk]; unfold sp_w; rw [if_neg q], by rw [d1]; unfold sp_t; rw [if_neg q]; rfl, e33⟩
      · refine loop3 (dH D) 0 hh (by omega) hs ?_ e33 (fun k hk => absurd hk (Nat.not_lt_zero k))
        by_cases hz : sp_po (dP D) pu = -1
        · exact nobody hz
        · rw [(c2 hz).1] at q; exact q
      · rw [a'.2.2.2.2.1] at q; exact absurd (nI_le (Nat.le_refl _) (by omega)) q
    | succ n ih =>
      intro i hh hi hs e33 c1 c2
      have a' := am hh hs
      obtain ⟨e1, e2⟩ := mo_we a'.1
      have s0 := a'.1.1
      have nx : ∀ v : Int32, (sp_po (dP D) pu = -1 → v = 1) → (¬ sp_po (dP D) pu = -1 → v = sp_lo D (sp_po (dP D) pu) (nI i)) → ∀ h12 : ax_H, h12 = ax_pi hh (m + 16) (nI i).toNatClampNeg v → (Value.category (.ref m) = 1 ∧ ((ax_s h12 m).1 = 10 ∧ ((ax_s h12 m).1 = 10 ∧ (∃ b13 : Nat, ax_r h12 m 31 = some b13 ∧ ((ax_s h12 b13).1 = 11 ∧ (vp_in (nI i) (ax_s h12 b13).2 ∧ ((ax_s h12 m).1 = 10 ∧ (let h14 : ax_H := (ax_pi h12 m 32 ((ax_i h12 m 32) + (ax_i h12 b13 (nI i).toNatClampNeg))); A (66, [some (.ref m), some (.int (nI i + (1 : Int32)))], [], h14, 0, 0))))))))) := by
        intro v v1 v2 h12 e12
        have hs12 : mr (fun j => j = 32 ∨ j = 33) (fun a => a = m + 16) m h h12 := by rw [e12]; exact mr_tr hs (mr_c rfl (by omega))
        have a12 := am h12 hs12
        obtain ⟨f1, f2⟩ := mo_we a12.1
        refine ⟨rfl, a12.1.1, a12.1.1, _, f1, by rw [f2], by rw [f2]; exact vp_in_nI (by omega) (by decide), a12.1.1, ?_⟩
        intro h14
        have r1 : ax_i h12 m 32 = ax_i hh m 32 := by rw [e12, ai_pi, if_neg (by omega)]
        have r2 : ax_i h12 (m + 16) (nI i).toNatClampNeg = v := by rw [e12, ai_pi, if_pos ⟨rfl, rfl⟩]
        have r3 : ∀ q, ax_i h14 (m + 16) q = if q = i then v else ax_i hh (m + 16) q := by
          intro q
          show ax_i (ax_pi h12 m 32 _) (m + 16) q = _
          rw [ai_pi, if_neg (by omega), e12, ai_pi, nI_clamp (by omega)]
          by_cases e : q = i
          · rw [if_pos ⟨rfl, e⟩, if_pos e]
          · rw [if_neg (fun z => e z.2), if_neg e]
        have r4 : ax_i h14 m 32 = ax_i hh m 32 + v := by
          show ax_i (ax_pi h12 m 32 (ax_i h12 m 32 + ax_i h12 (m + 16) (nI i).toNatClampNeg)) m 32 = _
          rw [ai_pi, if_pos ⟨rfl, rfl⟩, r1, r2]
        have := ih (i + 1) h14 (by omega) (mr_tr hs12 (mr_f J32)) (by
          show ax_i (ax_pi h12 m 32 _) m 33 = _
          rw [ai_pi, if_neg (by omega), e12, ai_pi, if_neg (by omega)]; exact e33) (fun hz => ⟨by rw [r4, (c1 hz).1, v1 hz, nI_1], fun q hq' => by
            rw [r3]
            by_cases e : q = i
            · rw [if_pos e, v1 hz]
            · rw [if_neg e]; exact (c1 hz).2 q (by omega)⟩) (fun hz => ⟨by rw [r4, (c2 hz).1, v2 hz]; rfl, fun q hq' => by
            rw [r3]
            by_cases e : q = i
            · rw [if_pos e, v2 hz, e]
            · rw [if_neg e]; exact (c2 hz).2 q (by omega)⟩)
        rw [nI_succ] at this
        exact this
      refine vX10_layOdds_66 hA ⟨s0, fun q => ?_, fun _ => ⟨s0, _, e1, s0, fun h3 => ⟨s0, s0, ?_⟩, fun h3 => ⟨by rw [e2], by rw [e2]; exact vp_in_nI (by omega) (by decide), ?_⟩⟩⟩
      · rw [a'.2.2.2.2.1] at q; exact absurd q (nI_ge (by omega) (by omega))
      · rw [e33] at h3 ⊢
        have hpo : ∃ p, p < dP D ∧ sp_po (dP D) pu = nI p := by
          unfold sp_po at h3 ⊢
          by_cases z : dP D = 0
          · rw [if_pos z] at h3; exact absurd rfl h3
          · rw [if_neg z]; exact ⟨_, by have := poo_le pu (dP D - 1); omega, rfl⟩
        obtain ⟨p, hp, ep⟩ := hpo
        have v2 : sp_lo D (sp_po (dP D) pu) (nI i) = dlo D p i := by
          rw [ep]
          unfold sp_lo
          rw [sp_in_nI (by omega) hp, sp_in_nI (by omega) (by omega), nI_clamp (by omega), nI_clamp (by omega)]; rfl
        refine c_mof (i := 92 + 12 * p + i) a'.1 a'.2.1 a'.2.2.2.1 (by omega) (by rw [ep, show (12 : Int32) = nI 12 from rfl, show (92 : Int32) = nI 92 from rfl, pk_mul, nI_add, nI_add]) ⟨_, rfl, by rw [e2], by rw [e2]; exact vp_in_nI (by omega) (by decide), ?_⟩
        intro h12
        refine nx _ (fun hz => absurd hz h3) (fun _ => ?_) h12 rfl
        rw [v2, show 164 * ρ + (92 + 12 * p + i) = 164 * ρ + 92 + 12 * p + i by omega]
        exact a'.2.2.1.2.2.2.2.2.2.2 p i hp (by omega)
      · rw [e33] at h3
        intro h15
        exact nx 1 (fun _ => rfl) (fun hz => absurd h3 hz) h15 rfl
  -- the first: the poorest
  have loop1 : ∀ n i : Nat, ∀ hh : ax_H, i + n = dP D → mr (fun j => j = 32 ∨ j = 33) (fun a => a = m + 16) m h hh → ax_i hh m 33 = sp_po i pu → A (7, [some (.ref m), some (.int (nI i))], [], hh, 0, 0) := by
    intro n
    induction n with
    | zero =>
      intro i hh hi hs e33
      have a' := am hh hs
      obtain rfl : i = dP D := by omega
      refine vX10_layOdds_7 hA ⟨a'.1.1, fun _ => ⟨a'.1.1, ?_⟩, fun q => ?_⟩
      · intro h2
        refine loop2 (dH D) 0 h2 (by omega) (mr_tr hs (mr_f J32)) ?_ (fun _ => ⟨?_, fun q hq' => absurd hq' (Nat.not_lt_zero q)⟩) (fun _ => ⟨?_, fun q hq' => absurd hq' (Nat.not_lt_zero q)⟩)
        · show ax_i (ax_pi hh m 32 0) m 33 = _
          rw [ai_pi, if_neg (by omega)]; exact e33
        · show ax_i (ax_pi hh m 32 0) m 32 = _
          rw [ai_pi, if_pos ⟨rfl, rfl⟩]; rfl
        · show ax_i (ax_pi hh m 32 0) m 32 = _
          rw [ai_pi, if_pos ⟨rfl, rfl⟩]; rfl
      · rw [a'.2.2.2.2.2.1] at q; exact absurd (nI_le (Nat.le_refl _) (by omega)) q
    | succ n ih =>
      intro i hh hi hs e33
      have a' := am hh hs
      obtain ⟨e1, e2⟩ := mo_pu a'.1
      have s0 := a'.1.1
      have hpu' : ∀ p, p < dP D → ax_i hh (m + 13) p = pu p := fun p hp => by rw [mr_e hs (by omega) (by omega)]; exact hpu p hp
      have nx : ∀ (h3 : ax_H) (v : Int32), h3 = ax_pi hh m 33 v → v = sp_po (i + 1) pu → A (7, [some (.ref m), some (.int (nI i + 1))], [], h3, 0, 0) := by
        rintro h3 v e3 ev
        have := ih (i + 1) h3 (by omega) (by rw [e3]; exact mr_tr hs (mr_f J33)) (by rw [e3, ai_pi, if_pos ⟨rfl, rfl⟩]; exact ev)
        rw [nI_succ] at this
        exact this
      refine vX10_layOdds_7 hA ⟨s0, fun q => ?_, fun _ => ⟨s0, fun q => ⟨s0, ?_⟩, fun q => ?_⟩⟩
      · rw [a'.2.2.2.2.2.1] at q; exact absurd q (nI_ge (by omega) (by omega))
      · intro h3
        refine nx h3 _ rfl ?_
        rw [e33] at q
        unfold sp_po at q ⊢
        by_cases z : i = 0
        · subst z; rfl
        · rw [if_neg z] at q
          have := congrArg Int32.toInt q
          rw [nI_toInt (by have := poo_le pu (i - 1); omega)] at this
          exact absurd this (by show ¬ ((_ : Int) = -1); omega)
      · rw [e33] at q
        have hi0 : ¬ i = 0 := fun z => q (by unfold sp_po; rw [if_pos z])
        obtain ⟨k, rfl⟩ : ∃ k, i = k + 1 := ⟨i - 1, by omega⟩
        have hk := poo_le pu k
        have ek : sp_po (k + 1) pu = nI (poo pu k) := by unfold sp_po; rw [if_neg hi0]; rfl
        have ek2 : sp_po (k + 1 + 1) pu = nI (poo pu (k + 1)) := by unfold sp_po; rw [if_neg (by omega)]; rfl
        refine ⟨s0, _, e1, by rw [e2], by rw [e2]; exact vp_in_nI (by omega) (by decide), s0, _, e1, s0, by rw [e2], by rw [e2, e33, ek]; exact vp_in_nI (by omega) (by decide), fun z => ⟨s0, s0, ?_⟩, fun z => ⟨s0, ?_⟩⟩
        · intro h6
          refine nx h6 _ rfl ?_
          rw [e33, ek, nI_clamp (by omega), nI_clamp (by omega), hpu' _ (by omega), hpu' _ (by omega)] at z
          rw [e33, ek, ek2, show poo pu (k + 1) = poo pu k from if_neg (nt_lt.mpr z)]
        · intro h7
          refine nx h7 _ rfl ?_
          rw [e33, ek, nI_clamp (by omega), nI_clamp (by omega), hpu' _ (by omega), hpu' _ (by omega)] at z
          rw [ek2, show poo pu (k + 1) = k + 1 from if_pos (nt_le.mp z)]
  refine loop1 (dP D) 0 h1 (by omega) (mr_f J33) ?_
  show ax_i (ax_pi h m 33 (-1)) m 33 = _
  rw [ai_pi, if_pos ⟨rfl, rfl⟩]; rfl
end
end

section
section
variable {g : ax_G} {Ret : Option Value → ax_H → Prop} {h : ax_H} {m : Nat}
def hd_J : Nat → Prop := fun j => j = 25 ∨ j = 26 ∨ j = 27 ∨ j = 32 ∨ j = 33 ∨ j = 34
def hd_F (m : Nat) : Nat → Prop := fun a => a = m + 13 ∨ a = m + 14 ∨ a = m + 15 ∨ a = m + 16
theorem nI_nm1 {k : Nat} (hk : k < 2 ^ 31) : ¬ nI k = -1 := by
  intro q
  have := congrArg Int32.toInt q
  rw [nI_toInt hk] at this
  exact absurd this (by show ¬ ((_ : Int) = -1); omega)
/-- the reference takes a republic in hand -/
theorem c_mhand {n : Nat} {x : Int32} {DD : Nat → rD} (a : mo_st h m) (hn : n ≤ 2) (hm : ax_i h (m + 5) 0 = nI n) (hR : ∀ ρ, ρ < n → rm_at h m (164 * ρ) (DD ρ) ∧ rd_de (DD ρ))
    (h0 : sp_in x n = false → Ret (some (.int 0)) h)
    (h1 : ∀ ρ, ρ < n → x = nI ρ → ∀ h', mr hd_J (hd_F m) m h h' → mc_at h' m ρ (DD ρ) (dmo (DD ρ)) (dpu (DD ρ)) (fun p q => sp_vb (DD ρ) (dmo (DD ρ)) p (nI q) (-1)) → mw_at h' m (dH (DD ρ)) (sp_w (DD ρ) (sp_po (dP (DD ρ)) (dpu (DD ρ)))) (sp_t (DD ρ) (sp_po (dP (DD ρ)) (dpu (DD ρ)))) (sp_po (dP (DD ρ)) (dpu (DD ρ))) → Ret (some (.int 1)) h') : mX10_hand g [.ref m, .int x] h Ret := by
  refine uX10_hand (fun A hA => vX10_hand_0 hA ⟨a.1, c_mis (s := 0) a (by decide) hn hm ⟨_, rfl, fun q => ?_, fun q => ⟨Or.inl rfl, h0 (b2i_0.mp q)⟩⟩⟩)
  rw [b2i_n0] at q
  obtain ⟨ρ, hρ, rfl⟩ := sp_in_ix (by omega) q
  obtain ⟨hrm, hde⟩ := hR ρ hρ
  have hq := h1 ρ hρ rfl
  clear h0 h1 hR
  generalize DD ρ = D at hrm hde hq
  obtain ⟨hH, hP⟩ := id hrm.1
  have J : ∀ k, (k = 25 ∨ k = 26 ∨ k = 27 ∨ k = 32 ∨ k = 33 ∨ k = 34) → hd_J k := fun k hk => hk
  refine ⟨a.1, ?_⟩
  intro h4
  have hs4 : mr hd_J (hd_F m) m h h4 := mr_f (J 25 (by decide))
  have a4 := mr_st hs4 a
  have r4 : rm_at h4 m (164 * ρ) D := rm_at_same hs4.1 (by rintro (z | z | z | z | z) <;> omega) hrm
  have e4 : ax_i h4 m 25 = nI ρ := by show ax_i (ax_pi h m 25 _) m 25 = _; rw [ai_pi, if_pos ⟨rfl, rfl⟩]
  refine ⟨a4.1, c_mof (i := 0) (ρ := ρ) a4 (by omega) e4 (by omega) rfl ⟨_, rfl, a4.1, ?_⟩⟩
  rw [show ax_i h4 (m + 6) (164 * ρ + 0) = nI (dH D) from r4.2.1]
  intro h8
  have hs8 : mr hd_J (hd_F m) m h h8 := mr_tr hs4 (mr_f (J 26 (by decide)))
  have a8 := mr_st hs8 a
  have r8 : rm_at h8 m (164 * ρ) D := rm_at_same hs8.1 (by rintro (z | z | z | z | z) <;> omega) hrm
  have e8 : ax_i h8 m 25 = nI ρ := by show ax_i (ax_pi h4 m 26 _) m 25 = _; rw [ai_pi, if_neg (by omega)]; exact e4
  have f8 : ax_i h8 m 26 = nI (dH D) := by show ax_i (ax_pi h4 m 26 _) m 26 = _; rw [ai_pi, if_pos ⟨rfl, rfl⟩]
  refine ⟨a8.1, c_mof (i := 1) (ρ := ρ) a8 (by omega) e8 (by omega) rfl ⟨_, rfl, a8.1, ?_⟩⟩
  rw [r8.2.2.1]
  intro h12
  have hs12 : mr hd_J (hd_F m) m h h12 := mr_tr hs8 (mr_f (J 27 (by decide)))
  refine ⟨(mr_st hs12 a).1, ?_⟩
  intro h13
  have hs13 : mr hd_J (hd_F m) m h h13 := mr_tr hs12 (mr_f (J 34 (by decide)))
  have b13 : mb_at h13 m ρ D (dmo D) := by
    refine ⟨mr_st hs13 a, by omega, rm_at_same hs13.1 (by rintro (z | z | z | z | z) <;> omega) hrm, ?_, ?_, ?_, fun k hk => ?_⟩
    · show ax_i (ax_pi h12 m 34 _) m 25 = _
      rw [ai_pi, if_neg (by omega)]
      show ax_i (ax_pi h8 m 27 _) m 25 = _
      rw [ai_pi, if_neg (by omega)]; exact e8
    · show ax_i (ax_pi h12 m 34 _) m 26 = _
      rw [ai_pi, if_neg (by omega)]
      show ax_i (ax_pi h8 m 27 _) m 26 = _
      rw [ai_pi, if_neg (by omega)]; exact f8
    · show ax_i (ax_pi h12 m 34 _) m 27 = _
      rw [ai_pi, if_neg (by omega)]
      show ax_i (ax_pi h8 m 27 _) m 27 = _
      rw [ai_pi, if_pos ⟨rfl, rfl⟩]
    · rw [if_neg]
      show ¬ nI k = ax_i (ax_pi h12 m 34 _) m 34
      rw [ai_pi, if_pos ⟨rfl, rfl⟩]
      exact nI_nm1 (by omega)
  clear_value h13
  have key : ∀ k i : Nat, ∀ (hh : ax_H) (o1 o3 : Option Value), i + k = dP D → mr hd_J (hd_F m) m h hh → mb_at hh m ρ D (dmo D) → (∀ p, p < i → ax_i hh (m + 13) p = dpu D p) → (∀ p q, p < i → q < dH D → ax_i hh (m + 14) (12 * p + q) = dde D p q) → (∀ p q, p < i → q < dH D → ax_i hh (m + 15) (12 * p + q) = sp_vb D (dmo D) p (nI q) (-1)) → A (41, [some (.ref m), o1, some (.int (nI i)), o3], [], hh, 0, 0) := by
    intro k
    induction k with
    | zero =>
      intro i hh o1 o3 hi hs b c1 c2 c3
      obtain rfl : i = dP D := by omega
      refine vX10_hand_41 hA ⟨b.1.1, fun _ => ⟨b.1.1, c_mlayOdds b c1 (fun h' hs' hw => ⟨rfl, Or.inr rfl, ?_⟩)⟩, fun q => ?_⟩
      · refine hq h' (mr_tr hs (mr_mono hs' (fun z hz => J z (by omega)) (fun z hz => Or.inr (Or.inr (Or.inr hz))))) ⟨mb_at_mr hs' (by decide) (by omega) b, fun p hp => ?_, fun p q hp hq' => ?_, fun p q hp hq' => ?_⟩ hw
        · rw [mr_e hs' (by omega) (by omega)]; exact c1 p hp
        · rw [mr_e hs' (by omega) (by omega)]; exact c2 p q hp hq'
        · rw [mr_e hs' (by omega) (by omega)]; exact c3 p q hp hq'
      · rw [b.2.2.2.2.2.1] at q; exact absurd (nI_le (Nat.le_refl _) (by omega)) q
    | succ k ih =>
      intro i hh o1 o3 hi hs b c1 c2 c3
      obtain ⟨e1, e2⟩ := mo_pu b.1
      refine vX10_hand_41 hA ⟨b.1.1, fun q => ?_, fun _ => ⟨b.1.1, _, e1, b.1.1, c_mof (i := 2 + i) b.1 b.2.1 b.2.2.2.1 (by omega) (ni_c 2 i) ⟨_, rfl, by rw [e2], by rw [e2]; exact vp_in_nI (by omega) (by decide), ?_⟩⟩⟩
      · rw [b.2.2.2.2.2.1] at q; exact absurd q (nI_ge (by omega) (by omega))
      · rw [← Nat.add_assoc, b.2.2.1.2.2.2.1 i (by omega)]
        intro h20
        have hs20' : mr noJ (hd_F m) m hh h20 := mr_c (Or.inl rfl) (by omega)
        have b20 := mb_at_mr hs20' ⟨id, id, id, id, id⟩ (by rintro (z | z | z | z) <;> omega) b
        have inner : ∀ k2 j : Nat, ∀ (hj : ax_H) (o1 : Option Value), j + k2 = dH D → mr hd_J (hd_F m) m h hj → mb_at hj m ρ D (dmo D) → (∀ p, p < i + 1 → ax_i hj (m + 13) p = dpu D p) → (∀ p q, (p < i ∧ q < dH D) ∨ (p = i ∧ q < j) → ax_i hj (m + 14) (12 * p + q) = dde D p q) → (∀ p q, p < i → q < dH D → ax_i hj (m + 15) (12 * p + q) = sp_vb D (dmo D) p (nI q) (-1)) → A (64, [some (.ref m), o1, some (.int (nI i)), some (.int (nI j))], [], hj, 0, 0) := by
          intro k2
          induction k2 with
          | zero =>
            intro j hj o1 hjk hsj bj d1 d2 d3
            obtain rfl : j = dH D := by omega
            refine vX10_hand_64 hA ⟨bj.1.1, fun _ => ⟨bj.1.1, c_mlayValues bj hde (by omega) (fun q hq' => d2 i q (by omega)) (fun h' hs' hv => ⟨rfl, ?_⟩)⟩, fun q => ?_⟩
            · rw [← nI_succ]
              refine ih (i + 1) h' _ _ (by omega) (mr_tr hsj (mr_mono hs' (fun z hz => hz.elim) (fun z hz => Or.inr (Or.inr (Or.inl hz))))) (mb_at_mr hs' ⟨id, id, id, id, id⟩ (by omega) bj) (fun p hp => ?_) (fun p q hp hq' => ?_) (fun p q hp hq' => ?_)
              · rw [mr_e hs' (by omega) (by omega)]; exact d1 p hp
              · rw [mr_e hs' (by omega) (by omega)]; exact d2 p q (by omega)
              · rw [hv]
                by_cases e : p = i
                · subst e
                  rw [if_pos (by omega), Nat.add_sub_cancel_left]
                · rw [if_neg (by omega)]; exact d3 p q (by omega) hq'
            · rw [bj.2.2.2.2.1] at q; exact absurd (nI_le (Nat.le_refl _) (by omega)) q
          | succ k2 ihk =>
            intro j hj o1 hjk hsj bj d1 d2 d3
            obtain ⟨f1, f2⟩ := mo_de bj.1
            have ei : (12 : Int32) * nI i + nI j = nI (12 * i + j) := ni_21
            refine vX10_hand_64 hA ⟨bj.1.1, fun q => ?_, fun _ => ⟨bj.1.1, _, f1, bj.1.1, c_mof (i := 20 + 12 * i + j) bj.1 bj.2.1 bj.2.2.2.1 (by omega) (by rw [show (12 : Int32) = nI 12 from rfl, show (20 : Int32) = nI 20 from rfl, pk_mul, nI_add, nI_add]) ⟨_, rfl, by rw [f2], by rw [ei, f2]; exact vp_in_nI (by omega) (by decide), ?_⟩⟩⟩
            · rw [bj.2.2.2.2.1] at q; exact absurd q (nI_ge (by omega) (by omega))
            · rw [show 164 * ρ + (20 + 12 * i + j) = 164 * ρ + 20 + 12 * i + j by omega, bj.2.2.1.2.2.2.2.2.2.1 i j (by omega) (by omega)]
              intro h27
              have hs27 : mr noJ (hd_F m) m hj h27 := mr_c (Or.inr (Or.inl rfl)) (by omega)
              have b27 := mb_at_mr hs27 ⟨id, id, id, id, id⟩ (by rintro (z | z | z | z) <;> omega) bj
              have := ihk (j + 1) h27 o1 (by omega) (mr_tr hsj (mr_mono hs27 (fun z hz => hz.elim) (fun z hz => hz))) b27 (fun p hp => by
                  show ax_i (ax_pi hj (m + 14) _ _) (m + 13) p = _
                  rw [ai_pi, if_neg (by omega)]; exact d1 p hp) (fun p q hpq => by
                  show ax_i (ax_pi hj (m + 14) (12 * nI i + nI j).toNatClampNeg _) (m + 14) _ = _
                  rw [ai_pi, ei, nI_clamp (by omega)]
                  by_cases e : p = i ∧ q = j
                  · rw [if_pos ⟨rfl, by rw [e.1, e.2]⟩, e.1, e.2]
                  · rw [if_neg (by rintro ⟨-, z⟩; omega)]; exact d2 p q (by omega)) (fun p q hp hq' => by
                  show ax_i (ax_pi hj (m + 14) _ _) (m + 15) _ = _
                  rw [ai_pi, if_neg (by omega)]; exact d3 p q hp hq')
              rw [nI_succ] at this
              exact this
        refine inner (dH D) 0 h20 _ (by omega) (mr_tr hs (mr_mono hs20' (fun z hz => hz.elim) (fun z hz => hz))) b20 (fun p hp => ?_) (fun p q hpq => ?_) (fun p q hp hq' => ?_)
        · show ax_i (ax_pi hh (m + 13) (nI i).toNatClampNeg _) (m + 13) p = _
          rw [ai_pi, nI_clamp (by omega)]
          by_cases e : p = i
          · rw [if_pos ⟨rfl, e⟩, e]
          · rw [if_neg (fun z => e z.2)]; exact c1 p (by omega)
        · show ax_i (ax_pi hh (m + 13) _ _) (m + 14) _ = _
          rw [ai_pi, if_neg (by omega)]; exact c2 p q (by omega) (by omega)
        · show ax_i (ax_pi hh (m + 13) _ _) (m + 15) _ = _
          rw [ai_pi, if_neg (by omega)]; exact c3 p q hp hq'
  exact key (dP D) 0 h13 _ _ (by omega) hs13 b13 (fun p hp => absurd hp (Nat.not_lt_zero p)) (fun p q hp => absurd hp (Nat.not_lt_zero p)) (fun p q hp => absurd hp (Nat.not_lt_zero p))
/-! both sides' values are one -/
theorem sumN_one {f e : Nat → Int32} {q : Nat} : ∀ {n : Nat}, sumN (fun i => f i + (if i = q then e i else 0)) n = sumN f n + (if q < n then e q else 0)
  | 0 => rfl
  | n + 1 => by
    show sumN (fun i => f i + (if i = q then e i else 0)) n + (f n + (if n = q then e n else 0)) = sumN f n + f n + _
    rw [sumN_one (n := n)]
    by_cases e1 : n = q
    · subst e1
      rw [if_neg (Nat.lt_irrefl n), if_pos rfl, if_pos (Nat.lt_succ_self n), Int32.add_zero, Int32.add_assoc]
    · rw [if_neg e1, Int32.add_zero]
      by_cases e2 : q < n
      · rw [if_pos e2, if_pos (by omega), Int32.add_assoc, Int32.add_comm (e q), ← Int32.add_assoc]
      · rw [if_neg e2, if_neg (by omega), Int32.add_zero, Int32.add_zero]
theorem mw_one {D : rD} {mo : Nat → Int32} {p q : Nat} (hd : rd_de D) (hp : p < dP D) (hq : q < dH D) (hH : dH D ≤ 12) (hP : dP D ≤ 6) : sp_mw D mo p q 1 = sp_wo D (sp_de D (nI p) (nI q)) := by
  unfold sp_mw sp_de
  rw [sp_in_nI (by omega) hp, sp_in_nI (by omega) hq, nI_clamp (by omega), nI_clamp (by omega), if_pos rfl, Int32.mul_one]
  show _ = sp_wo D (dde D p q)
  unfold sp_wo
  rcases hd p q hp hq with e | ⟨k, hk, e⟩
  · rw [e, if_pos rfl, if_pos (Or.inl (by decide))]
  · rw [e, if_neg (nI_nm1 (by omega)), if_neg]
    rintro (z | z)
    · exact nI_pos (by omega) z
    · exact nI_ge (a := k) (b := 6) hk (by decide) z
theorem mw_two {D : rD} {p q : Nat} (hd : rd_de D) (hp : p < dP D) (hq : q < dH D) (hH : dH D ≤ 12) (hP : dP D ≤ 6) (hmo : ∀ k, k < 6 → dmo D k = 0 ∨ dmo D k = 1 ∨ dmo D k = 2) : sp_mw D (dmo D) p q 2 = sp_wo D (sp_de D (nI p) (nI q)) + sp_ex D (sp_de D (nI p) (nI q)) := by
  rw [← mw_one hd hp hq hH hP (mo := dmo D)]
  unfold sp_de sp_ex sp_xb sp_mo
  rw [sp_in_nI (by omega) hp, sp_in_nI (by omega) hq, nI_clamp (by omega), nI_clamp (by omega)]
  show _ = _ + (if (if dde D p q < 0 ∨ 6 ≤ dde D p q then 1 else dmo D (dde D p q).toNatClampNeg) = 0 then sp_wo D (dde D p q) else if (if dde D p q < 0 ∨ 6 ≤ dde D p q then 1 else dmo D (dde D p q).toNatClampNeg) = 2 then -(sp_wo D (dde D p q)) else 0)
  unfold sp_mw sp_wo
  rcases hd p q hp hq with e | ⟨k, hk, e⟩
  · rw [e, if_pos rfl, if_pos rfl, if_pos (Or.inl (by decide)), if_neg (by decide), if_neg (by decide)]
    rfl
  · have hn : ¬ (nI k < 0 ∨ 6 ≤ nI k) := by
      rintro (z | z)
      · exact nI_pos (by omega) z
      · exact nI_ge (a := k) (b := 6) hk (by decide) z
    rw [e, if_neg (nI_nm1 (by omega)), if_neg (nI_nm1 (by omega)), if_neg hn, if_neg hn, nI_clamp (by omega), if_pos rfl, if_neg (by decide)]
    unfold sp_ti
    rcases hmo k hk with z | z | z
    · rw [z, if_pos rfl, if_pos rfl, Int32.mul_one, show (2 : Int32) = 1 + 1 from rfl, Int32.mul_add, Int32.mul_one]
    · rw [z, if_neg (by decide), if_pos rfl, if_neg (by decide), if_neg (by decide), Int32.mul_one, Int32.add_zero]
    · rw [z, if_neg (by decide), if_neg (by decide), if_neg (by decide), if_pos rfl, Int32.mul_one, Int32.mul_zero, Int32.add_right_neg]
theorem vb_vl {D : rD} {p q : Nat} (hd : rd_de D) (hp : p < dP D) (hq : q < dH D) (hH : dH D ≤ 12) (hP : dP D ≤ 6) (hmo : ∀ k, k < 6 → dmo D k = 0 ∨ dmo D k = 1 ∨ dmo D k = 2) : sp_vb D (dmo D) p (nI q) (-1) = sp_vl D p q := by
  unfold sp_vb sp_vl sp_wd
  have := sumN_one (f := fun i => sp_wo D (sp_de D (nI p) (nI i))) (e := fun i => sp_ex D (sp_de D (nI p) (nI i))) (q := q) (n := dH D)
  rw [if_pos hq] at this
  rw [← this]
  refine sumN_congr (fun i hi => ?_)
  unfold sp_lv
  rw [if_neg (nI_nm1 (by omega))]
  by_cases e : i = q
  · subst e
    rw [if_pos rfl, if_pos rfl, show ((1 : Int32) + 1 + 0) = 2 from rfl]
    exact mw_two hd hp hq hH hP hmo
  · rw [if_neg (fun z => e ((nI_eq (by omega) (by omega)).mp z)), if_neg e, show ((1 : Int32) + 0 + 0) = 1 from rfl, Int32.add_zero]
    exact mw_one hd hp hi hH hP
end
end

section
section
/-! lines: how many at most, how wide, by sort -/
def lm : Nat → Nat := fun s => [0, 14, 6, 8, 6].getD s 0
def lw : Nat → Nat := fun s => [0, 1, 3, 2, 3].getD s 0
theorem lm_lw {s : Nat} (h1 : 1 ≤ s) (h5 : s < 5) : 1 ≤ lw s ∧ lw s ≤ 3 ∧ lm s ≤ 14 ∧ lm s * lw s ≤ 18 := by
  match s, h1, h5 with
  | 1, _, _ => decide
  | 2, _, _ => decide
  | 3, _, _ => decide
  | 4, _, _ => decide
def li_st (h : ax_H) (l s : Nat) : Prop := (ax_s h l).1 = 2 ∧ ax_r h l 2 = some (l + 1) ∧ ax_i h l 0 = nI (lm s) ∧ ax_i h l 1 = nI (lw s) ∧ ax_s h (l + 1) = (11, lm s * lw s)
def li_at (h : ax_H) (l s n : Nat) (C : Nat → Nat → Int32) : Prop := li_st h l s ∧ n ≤ lm s ∧ ax_i h l 3 = nI n ∧ ∀ i j, i < n → j < lw s → ax_i h (l + 1) (i * lw s + j) = C i j
theorem li_st_same {F : Nat → Prop} {h h' : ax_H} {l s : Nat} (hs : ax_same F h h') (hF : ¬ F l) (a : li_st h l s) : li_st h' l s := ⟨by rw [hs.2.1]; exact a.1, by rw [hs.2.2.1]; exact a.2.1, by rw [(hs.2.2.2 _ hF).1]; exact a.2.2.1, by rw [(hs.2.2.2 _ hF).1]; exact a.2.2.2.1, by rw [hs.2.1]; exact a.2.2.2.2⟩
theorem li_at_same {F : Nat → Prop} {h h' : ax_H} {l s n : Nat} {C : Nat → Nat → Int32} (hs : ax_same F h h') (hF : ¬ F l ∧ ¬ F (l + 1)) (a : li_at h l s n C) : li_at h' l s n C := ⟨li_st_same hs hF.1 a.1, a.2.1, by rw [(hs.2.2.2 _ hF.1).1]; exact a.2.2.1, fun i j hi hj => by rw [(hs.2.2.2 _ hF.2).1]; exact a.2.2.2 i j hi hj⟩
def sp_lc (n w : Nat) (C : Nat → Nat → Int32) (x y : Int32) : Int32 := if sp_in x n && sp_in y w then C x.toNatClampNeg y.toNatClampNeg else 0
/-- where the lines of a sort lie in what is told at t -/
def lnp (t s k : Nat) : Nat := t + 9 + 14 * k + 2 * s
def to_st (h : ax_H) (t : Nat) : Prop := (ax_s h t).1 = 8 ∧ (ax_r h t 0 = some (t + 1) ∧ ax_r h t 1 = some (t + 2) ∧ ax_r h t 2 = some (t + 3) ∧ ax_r h t 3 = some (t + 4)) ∧ (ax_s h (t + 1) = (12, 600) ∧ ax_s h (t + 2) = (11, 5) ∧ ax_s h (t + 3) = (17, 2) ∧ ax_s h (t + 4) = (15, 10)) ∧ (∀ k, k < 2 → ax_r h (t + 3) k = some (t + 5 + 14 * k) ∧ rc_st h (t + 5 + 14 * k)) ∧ ∀ s k, 1 ≤ s → s < 5 → k < 2 → ax_r h (t + 4) (s * 2 + k) = some (lnp t s k) ∧ li_st h (lnp t s k) s
/-- what is told at t: how many of each sort, the republics, the lines -/
def to_at (h : ax_H) (t : Nat) (z : Nat → Nat) (DD : Nat → rD) (N : Nat → Nat → Nat) (C : Nat → Nat → Nat → Nat → Int32) : Prop := to_st h t ∧ (∀ s, s < 5 → z s ≤ 2 ∧ ax_i h (t + 2) s = nI (z s)) ∧ (∀ k, k < z 0 → rc_at h (t + 5 + 14 * k) (DD k)) ∧ ∀ s k, 1 ≤ s → s < 5 → k < z s → li_at h (lnp t s k) s (N s k) (C s k)
def to_F (t : Nat) : Nat → Prop := fun a => t ≤ a ∧ a ≤ t + 32
theorem to_st_same {F : Nat → Prop} {h h' : ax_H} {t : Nat} (hs : ax_same F h h') (hF : ∀ a, F a → ¬ to_F t a) (a : to_st h t) : to_st h' t := by
  obtain ⟨a1, ⟨a2, a3, a4, a5⟩, ⟨b1, b2, b3, b4⟩, c1, c2⟩ := a
  refine ⟨by rw [hs.2.1]; exact a1, ⟨by rw [hs.2.2.1]; exact a2, by rw [hs.2.2.1]; exact a3, by rw [hs.2.2.1]; exact a4, by rw [hs.2.2.1]; exact a5⟩, ⟨by rw [hs.2.1]; exact b1, by rw [hs.2.1]; exact b2, by rw [hs.2.1]; exact b3, by rw [hs.2.1]; exact b4⟩, fun k hk => ⟨by rw [hs.2.2.1]; exact (c1 k hk).1, rc_st_same hs (c1 k hk).2⟩, fun s k h1 h5 hk => ⟨by rw [hs.2.2.1]; exact (c2 s k h1 h5 hk).1, li_st_same hs (fun q => hF _ q ?_) (c2 s k h1 h5 hk).2⟩⟩
  unfold to_F lnp
  omega
theorem to_at_same {F : Nat → Prop} {h h' : ax_H} {t : Nat} {z : Nat → Nat} {DD : Nat → rD} {N : Nat → Nat → Nat} {C : Nat → Nat → Nat → Nat → Int32} (hs : ax_same F h h') (hF : ∀ a, F a → ¬ to_F t a) (a : to_at h t z DD N C) : to_at h' t z DD N C := by
  obtain ⟨a1, a2, a3, a4⟩ := a
  have hn : ∀ x, to_F t x → ¬ F x := fun x hx q => hF x q hx
  refine ⟨to_st_same hs hF a1, fun s h5 => ⟨(a2 s h5).1, by rw [(hs.2.2.2 _ (hn _ (by unfold to_F; omega))).1]; exact (a2 s h5).2⟩, fun k hk => rc_at_same hs (fun j hj => hn _ ?_) (a3 k hk), fun s k h1 h5 hk => li_at_same hs ⟨hn _ ?_, hn _ ?_⟩ (a4 s k h1 h5 hk)⟩
  · have := (a2 0 (by decide)).1
    unfold to_F; omega
  · have := (a2 s h5).1
    unfold to_F lnp; omega
  · have := (a2 s h5).1
    unfold to_F lnp; omega
variable {g : ax_G} {Ret : Option Value → ax_H → Prop} {h : ax_H} {l s n t : Nat} {C1 : Nat → Nat → Int32} {z : Nat → Nat} {DD : Nat → rD} {N : Nat → Nat → Nat} {C : Nat → Nat → Nat → Nat → Int32}
theorem dec_f {x : Int32} {k : Nat} (h1 : x < 0 ∨ nI k ≤ x) : sp_in x k = false := decide_eq_false (by rintro ⟨a, b⟩; rcases h1 with c | c; exact absurd c (nt_lt.mpr a); exact absurd b (nt_lt.mpr c))
theorem dec_t {x : Int32} {k : Nat} (h1 : ¬ x < 0) (h2 : ¬ nI k ≤ x) : sp_in x k = true := decide_eq_true ⟨nt_lt.mp h1, nt_le.mp h2⟩
theorem c_lhas {x : Int32} (hL : li_at h l s n C1) (hq : Ret (some (.int (b2i (sp_in x n)))) h) : mX2_has g [.ref l, .int x] h Ret := by
  have e := hL.2.2.1
  refine eX2_has ⟨fun h1 => ⟨Or.inl rfl, ?_⟩, fun h1 => ⟨hL.1.1, fun h2 => ⟨Or.inl rfl, ?_⟩, fun h2 => ⟨Or.inr rfl, ?_⟩⟩⟩
  · rw [dec_f (Or.inl h1)] at hq; exact hq
  · rw [e] at h2; rw [dec_f (Or.inr h2)] at hq; exact hq
  · rw [e] at h2; rw [dec_t h1 h2] at hq; exact hq
theorem c_lcell {x y : Int32} (h1s : 1 ≤ s) (h5s : s < 5) (hL : li_at h l s n C1) (hq : Ret (some (.int (sp_lc n (lw s) C1 x y))) h) : mX2_cell g [.ref l, .int x, .int y] h Ret := by
  unfold sp_lc at hq
  obtain ⟨⟨s0, r2, -, e1, sc⟩, hn, e3, ec⟩ := id hL
  have hb := lm_lw h1s h5s
  refine eX2_cell ⟨s0, c_lhas hL ⟨_, rfl, fun h1 => ?_, fun h1 => ⟨fun h2 => ?_, fun h2 => ⟨s0, fun h3 => ?_, fun h3 => ?_⟩⟩⟩⟩
  · rw [b2i_0.mp h1] at hq; exact hq
  · rw [dec_f (Or.inl h2), Bool.and_false] at hq; exact hq
  · rw [e1] at h3; rw [dec_f (Or.inr h3), Bool.and_false] at hq; exact hq
  · rw [e1] at h3
    have hx := b2i_n0.mp h1
    rw [hx, dec_t h2 h3] at hq
    obtain ⟨i, hi, rfl⟩ := sp_in_ix (by omega) hx
    obtain ⟨j, hj, rfl⟩ := (ni_ix (n := lw s) (by omega)).mp ⟨h2, h3⟩
    rw [nI_clamp (by omega), nI_clamp (by omega)] at hq
    have hlt : i * lw s + j < lm s * lw s := by
      have : (i + 1) * lw s ≤ lm s * lw s := Nat.mul_le_mul_right _ (by omega)
      rw [Nat.succ_mul] at this
      omega
    have ei : nI i * ax_i h l 1 + nI j = nI (i * lw s + j) := by rw [e1, pk_mul, nI_add]
    refine ⟨s0, _, r2, s0, by rw [sc], by rw [ei, sc]; exact vp_in_nI hlt (by omega), ?_⟩
    rw [ei, nI_clamp (by omega), ec i j hi hj]
    exact hq
theorem c_republicAt {x : Int32} (hT : to_at h t z DD N C) (h0 : sp_in x (z 0) = false → Ret (some .null) h) (h1 : ∀ k, k < z 0 → x = nI k → Ret (some (.ref (t + 5 + 14 * k))) h) : mX8_republicAt g [.ref t, .int x] h Ret := by
  obtain ⟨⟨s0, ⟨-, r1, r2, -⟩, ⟨-, s1, s2, -⟩, c1, -⟩, ez, -, -⟩ := hT
  obtain ⟨z2, e0⟩ := ez 0 (by decide)
  refine eX8_republicAt ⟨fun q => h0 (dec_f (Or.inl q)), fun q => ⟨s0, _, r1, by rw [s1], by rw [s1]; exact vp_in_nI (n := 0) (N := 5) (by decide) (by decide), fun q2 => ?_, fun q2 => ?_⟩⟩
  · rw [e0] at q2; exact h0 (dec_f (Or.inr q2))
  · rw [e0] at q2
    obtain ⟨k, hk, rfl⟩ := (ni_ix (n := z 0) (by omega)).mp ⟨q, q2⟩
    refine ⟨fun _ => ⟨s0, _, r2, by rw [s2], by rw [s2]; exact vp_in_nI (by omega) (by decide), _, by rw [nI_clamp (by omega)]; exact (c1 k (by omega)).1, h1 k hk rfl⟩, fun q3 => ?_⟩
    exact absurd (nI_lt (a := k) (b := 2) (by omega) (by decide)) q3
theorem c_linesAt {s0 : Nat} {x : Int32} (hT : to_at h t z DD N C) (hs1 : 1 ≤ s0) (hs5 : s0 < 5) (h0 : sp_in x (z s0) = false → Ret (some .null) h) (h1 : ∀ k, k < z s0 → x = nI k → Ret (some (.ref (lnp t s0 k))) h) : mX8_linesAt g [.ref t, .int (nI s0), .int x] h Ret := by
  obtain ⟨⟨s8, ⟨-, r1, -, r3⟩, ⟨-, s1, -, s3⟩, -, c2⟩, ez, -, -⟩ := hT
  obtain ⟨z2, e0⟩ := ez s0 hs5
  refine eX8_linesAt ⟨fun q => absurd q (nI_nlt (a := s0) (b := 1) hs1 (by omega)), fun _ => ⟨fun q => absurd q (nI_ge (a := s0) (b := 5) hs5 (by decide)), fun _ => ⟨fun q => h0 (dec_f (Or.inl q)), fun q => ⟨s8, _, r1, by rw [s1], by rw [s1]; exact vp_in_nI hs5 (by decide), fun q2 => ?_, fun q2 => ?_⟩⟩⟩⟩
  · rw [nI_clamp (by omega), e0] at q2; exact h0 (dec_f (Or.inr q2))
  · rw [nI_clamp (by omega), e0] at q2
    obtain ⟨k, hk, rfl⟩ := (ni_ix (n := z s0) (by omega)).mp ⟨q, q2⟩
    have ei : nI s0 * 2 + nI k = nI (s0 * 2 + k) := by rw [show (2 : Int32) = nI 2 from rfl, pk_mul, nI_add]
    refine ⟨fun _ => ⟨s8, _, r3, by rw [s3], by rw [ei, s3]; exact vp_in_nI (by omega) (by decide), _, by rw [ei, nI_clamp (by omega)]; exact (c2 s0 k hs1 hs5 (by omega)).1, h1 k hk rfl⟩, fun q3 => ?_⟩
    exact absurd (nI_lt (a := k) (b := 2) (by omega) (by decide)) q3
/-- a number of a line, or how many lines there are -/
def sp_ll (z : Nat → Nat) (N : Nat → Nat → Nat) (C : Nat → Nat → Nat → Nat → Int32) (s : Nat) (x y w v : Int32) : Int32 := if sp_in x (z s) then (if y = -1 ∧ w = 0 then nI (N s x.toNatClampNeg) else if sp_in y (N s x.toNatClampNeg) && sp_in w (lw s) then C s x.toNatClampNeg y.toNatClampNeg w.toNatClampNeg else v) else v
theorem c_lineCell {s0 : Nat} {x y w v : Int32} (hT : to_at h t z DD N C) (hs1 : 1 ≤ s0) (hs5 : s0 < 5) (hq : Ret (some (.int (sp_ll z N C s0 x y w v))) h) : mX8_lineCell g [.ref t, .int (nI s0), .int x, .int y, .int w, .int v] h Ret := by
  unfold sp_ll at hq
  refine eX8_lineCell ⟨hT.1.1, c_linesAt hT hs1 hs5 (fun q => Or.inr ⟨rfl, ?_⟩) (fun k hk ex => Or.inl ⟨_, rfl, ?_⟩)⟩
  · rw [q] at hq; exact hq
  · subst ex
    have z2 := (hT.2.1 s0 hs5).1
    have hL := hT.2.2.2 s0 k hs1 hs5 hk
    have hb := lm_lw hs1 hs5
    rw [sp_in_nI (by omega) hk, nI_clamp (by omega)] at hq
    have hq : Ret (some (.int (if y = -1 ∧ w = 0 then nI (N s0 k) else if sp_in y (N s0 k) && sp_in w (lw s0) then C s0 k y.toNatClampNeg w.toNatClampNeg else v))) h := hq
    have rest : ¬ (y = -1 ∧ w = 0) → ((ax_s h (lnp t s0 k)).1 = 2 ∧ mX2_has g [.ref (lnp t s0 k), .int y] h (fun v5 h4 => (∃ r6 : Int32, v5 = some (.int r6) ∧ ((r6 = 0 → Ret (some (.int v)) h4) ∧ (¬ (r6 = 0) → ((w < 0 → Ret (some (.int v)) h4) ∧ (¬ (w < 0) → ((ax_s h4 (lnp t s0 k)).1 = 2 ∧ (((ax_i h4 (lnp t s0 k) 1) ≤ w → Ret (some (.int v)) h4) ∧ (¬ ((ax_i h4 (lnp t s0 k) 1) ≤ w) → ((ax_s h4 (lnp t s0 k)).1 = 2 ∧ mX2_cell g [.ref (lnp t s0 k), .int y, .int w] h4 (fun v8 h7 => (∃ r9 : Int32, v8 = some (.int r9) ∧ Ret (some (.int r9)) h7))))))))))))) := by
      intro hne
      rw [if_neg hne] at hq
      refine ⟨hL.1.1, c_lhas hL ⟨_, rfl, fun q => ?_, fun q => ⟨fun q2 => ?_, fun q2 => ⟨hL.1.1, fun q3 => ?_, fun q3 => ⟨hL.1.1, c_lcell hs1 hs5 hL ⟨_, rfl, ?_⟩⟩⟩⟩⟩⟩
      · rw [b2i_0.mp q] at hq; exact hq
      · rw [dec_f (Or.inl q2), Bool.and_false] at hq; exact hq
      · rw [hL.1.2.2.2.1] at q3; rw [dec_f (Or.inr q3), Bool.and_false] at hq; exact hq
      · rw [hL.1.2.2.2.1] at q3
        unfold sp_lc
        rw [b2i_n0.mp q, dec_t q2 q3] at hq ⊢
        exact hq
    refine ⟨fun q => rest (fun e => q e.1), fun q => ⟨fun q2 => rest (fun e => q2 e.2), fun q2 => ⟨hL.1.1, ?_⟩⟩⟩
    rw [if_pos ⟨q, q2⟩] at hq
    rw [hL.2.2.1]; exact hq
/-! the class's object at place 0 -/
def xs_st (h : ax_H) : Prop := (ax_s h 0).1 = 9 ∧ (ax_r h 0 0 = some 1 ∧ ax_r h 0 1 = some 34 ∧ ax_r h 0 2 = some 35 ∧ ax_r h 0 3 = some 52 ∧ ax_r h 0 4 = some 55 ∧ ax_r h 0 5 = some 57 ∧ ax_r h 0 6 = some 59 ∧ ax_r h 0 7 = some 66 ∧ ax_r h 0 8 = some 76) ∧ co_st h 52 ∧ od_st h 55 ∧ od_st h 57 ∧ (ax_s h 76).1 = 1
theorem xs_st_same {F : Nat → Prop} {h h' : ax_H} (hs : ax_same F h h') (a : xs_st h) : xs_st h' := by
  obtain ⟨a1, ⟨b0, b1, b2, b3, b4, b5, b6, b7, b8⟩, c1, c2, c3, c4⟩ := a
  exact ⟨by rw [hs.2.1]; exact a1, ⟨by rw [hs.2.2.1]; exact b0, by rw [hs.2.2.1]; exact b1, by rw [hs.2.2.1]; exact b2, by rw [hs.2.2.1]; exact b3, by rw [hs.2.2.1]; exact b4, by rw [hs.2.2.1]; exact b5, by rw [hs.2.2.1]; exact b6, by rw [hs.2.2.1]; exact b7, by rw [hs.2.2.1]; exact b8⟩, co_st_same hs c1, od_st_same hs c2, od_st_same hs c3, by rw [hs.2.1]; exact c4⟩
/-- the class's scratch: course, today's odds -/
def bg_F : Nat → Prop := fun a => (52 ≤ a ∧ a ≤ 54) ∨ (55 ≤ a ∧ a ≤ 56)
/-- the class takes a republic in hand -/
theorem c_begun {x : Int32} (hX : xs_st h) (hT : to_at h 1 z DD N C) (h0 : sp_in x (z 0) = false → Ret (some .null) h)
    (h1 : ∀ k, k < z 0 → x = nI k → ∀ h', ax_same bg_F h h' → rc_at h' (6 + 14 * k) (DD k) → co_at h' 52 (dP (DD k)) (dH (DD k)) (dpu (DD k)) (sp_vl (DD k)) → od_at h' 55 (dH (DD k)) (sp_w (DD k) (sp_po (dP (DD k)) (dpu (DD k)))) (sp_t (DD k) (sp_po (dP (DD k)) (dpu (DD k)))) → Ret (some (.ref (6 + 14 * k))) h') : mX9_begun g [.ref 0, .int x] h Ret := by
  obtain ⟨x1, ⟨b0, -, -, b3, b4, -, -, -, -⟩, c1, c2, -, -⟩ := id hX
  refine eX9_begun ⟨x1, _, b0, hT.1.1, c_republicAt hT (fun q => Or.inr ⟨rfl, h0 q⟩) (fun k hk ex => Or.inl ⟨_, rfl, x1, _, b3, c1.1, ?_⟩)⟩
  have z2 := (hT.2.1 0 (by decide)).1
  have hD := hT.2.2.1 k hk
  rw [show 1 + 5 + 14 * k = 6 + 14 * k by omega] at hD ⊢
  refine c_begin c1 hD (fun j hj => by unfold co_F; omega) (fun h' hs hc => ⟨rfl, ?_⟩)
  have hX' := xs_st_same hs hX
  have hD' := rc_at_same hs (fun j hj => by unfold co_F; omega) hD
  obtain ⟨y1, ⟨-, -, -, d3, d4, -, -, -, -⟩, e1, e2, -, -⟩ := id hX'
  refine ⟨y1, _, d4, y1, _, d3, e1.1, c_poorest hc ⟨_, rfl, e2.1, c_weigh e2 hD' (fun j hj => by unfold od_F; omega) (fun h2 hs2 ho => ⟨rfl, ?_⟩)⟩⟩
  refine h1 k hk ex h2 (sm_tr (sm_mono hs (fun a ha => by unfold co_F at ha; unfold bg_F; omega)) (sm_mono hs2 (fun a ha => by unfold od_F at ha; unfold bg_F; omega))) (rc_at_same hs2 (fun j hj => by unfold od_F; omega) hD') (co_at_same hs2 (by unfold od_F; omega) hc) ho
end
end

section
section
/-! both sides at once: class at 0, what is told at 1, reference at 77 -/
def lW (s : Nat) : Nat := 1 + lm s * lw s
def tm_at (h : ax_H) (m σ : Nat) (z : Nat → Nat) (DD : Nat → rD) (N : Nat → Nat → Nat) (C : Nat → Nat → Nat → Nat → Int32) : Prop := (∀ s, s < 5 → ax_i h (m + 5) (5 * σ + s) = nI (z s)) ∧ (∀ k, k < z 0 → rm_at h m (328 * σ + 164 * k) (DD k)) ∧ ∀ s k, 1 ≤ s → s < 5 → k < z s → ax_i h (m + 6 + s) (2 * lW s * σ + lW s * k) = nI (N s k) ∧ ∀ i j, i < N s k → j < lw s → ax_i h (m + 6 + s) (2 * lW s * σ + lW s * k + 1 + lw s * i + j) = C s k i j
theorem tm_at_same {F : Nat → Prop} {h h' : ax_H} {m σ : Nat} {z : Nat → Nat} {DD : Nat → rD} {N : Nat → Nat → Nat} {C : Nat → Nat → Nat → Nat → Int32} (hs : ax_same F h h') (hF : ∀ j, j < 6 → ¬ F (m + 5 + j)) (a : tm_at h m σ z DD N C) : tm_at h' m σ z DD N C := by
  refine ⟨fun s h5 => by rw [(hs.2.2.2 _ (hF 0 (by decide))).1]; exact a.1 s h5, fun k hk => rm_at_same hs (hF 1 (by decide)) (a.2.1 k hk), fun s k h1 h5 hk => ?_⟩
  have e : ∀ j, ax_i h' (m + 6 + s) j = ax_i h (m + 6 + s) j := (hs.2.2.2 _ (by have := hF (1 + s) (by omega); rwa [show m + 5 + (1 + s) = m + 6 + s by omega] at this)).1
  exact ⟨by rw [e]; exact (a.2.2 s k h1 h5 hk).1, fun i j hi hj => by rw [e]; exact (a.2.2 s k h1 h5 hk).2 i j hi hj⟩
/-- the numbers of lines are of their ranges -/
def ln_ok (s n : Nat) (C : Nat → Nat → Int32) : Prop := n ≤ lm s ∧ ∀ i, i < n → match s with
  | 1 => ∃ a : Nat, a < 12 ∧ C i 0 = nI a
  | 2 => ∃ a b c : Nat, a < 6 ∧ b ≤ c ∧ c < 12 ∧ C i 0 = nI a ∧ C i 1 = nI b ∧ C i 2 = nI c
  | 3 => ∃ a b : Nat, a < 12 ∧ 1 ≤ b ∧ b < 10 ∧ C i 0 = nI a ∧ C i 1 = nI b
  | _ => ∃ a b : Nat, 1 ≤ a ∧ a < 4 ∧ b < 6 ∧ C i 0 = nI a ∧ C i 1 = nI b ∧ -999 ≤ (C i 2).toInt ∧ (C i 2).toInt ≤ 999
def tk (z : Nat → Nat) (DD : Nat → rD) (N : Nat → Nat → Nat) (C : Nat → Nat → Nat → Nat → Int32) : Prop := (∀ s, s < 5 → z s ≤ 2) ∧ (∀ k, k < z 0 → rd_ok (DD k)) ∧ ∀ s k, 1 ≤ s → s < 5 → k < z s → ln_ok s (N s k) (C s k)
/-- what the queries find -/
def tc (h : ax_H) (z : Nat → Nat) (DD : Nat → rD) (N : Nat → Nat → Nat) (C : Nat → Nat → Nat → Nat → Int32) : Prop := xs_st h ∧ mo_st h 77 ∧ to_at h 1 z DD N C ∧ tm_at h 77 0 z DD N C ∧ tk z DD N C
def cl_F : Nat → Prop := fun a => 52 ≤ a ∧ a ≤ 76
def md_F : Nat → Prop := fun a => a = 77 ∨ (90 ≤ a ∧ a ≤ 101)
def qF : Nat → Prop := fun a => cl_F a ∨ md_F a
theorem tc_same {h h' : ax_H} {z : Nat → Nat} {DD : Nat → rD} {N : Nat → Nat → Nat} {C : Nat → Nat → Nat → Nat → Int32} (hs : ax_same qF h h') (a : tc h z DD N C) : tc h' z DD N C := ⟨xs_st_same hs a.1, mo_st_same hs a.2.1, to_at_same hs (fun x hx q => by unfold qF cl_F md_F at hx; unfold to_F at q; omega) a.2.2.1, tm_at_same hs (fun j hj q => by unfold qF cl_F md_F at q; omega) a.2.2.2.1, a.2.2.2.2⟩
/-- who rules first -/
def rul (D : rD) : Int32 := sp_po (dP D) (dpu D)
/-- the class with a republic in hand -/
def hc_at (h : ax_H) (k : Nat) (D : rD) : Prop := rc_at h (6 + 14 * k) D ∧ co_at h 52 (dP D) (dH D) (dpu D) (sp_vl D) ∧ od_at h 55 (dH D) (sp_w D (rul D)) (sp_t D (rul D))
/-- the reference with a republic in hand -/
def hm_at (h : ax_H) (k : Nat) (D : rD) : Prop := mc_at h 77 k D (dmo D) (dpu D) (sp_vl D) ∧ mw_at h 77 (dH D) (sp_w D (rul D)) (sp_t D (rul D)) (rul D)
variable {g : ax_G} {Ret : Option Value → ax_H → Prop} {h : ax_H} {z : Nat → Nat} {DD : Nat → rD} {N : Nat → Nat → Nat} {C : Nat → Nat → Nat → Nat → Int32}
theorem q_begun {x : Int32} (a : tc h z DD N C) (h0 : sp_in x (z 0) = false → Ret (some .null) h) (h1 : ∀ k, k < z 0 → x = nI k → rd_ok (DD k) → ∀ h', ax_same cl_F h h' → xs_st h' → hc_at h' k (DD k) → Ret (some (.ref (6 + 14 * k))) h') : mX9_begun g [.ref 0, .int x] h Ret :=
  c_begun a.1 a.2.2.1 h0 (fun k hk ex h' hs r c o => h1 k hk ex (a.2.2.2.2.2.1 k hk) h' (sm_mono hs (fun x hx => by unfold bg_F at hx; unfold cl_F; omega)) (xs_st_same hs a.1) ⟨r, c, o⟩)
theorem rd_de_of {D : rD} (a : rd_ok D) : rd_de D := a.2.2.2.2.2.1
theorem q_hand {x : Int32} (a : mo_st h 77) (T : tm_at h 77 0 z DD N C) (K : tk z DD N C) (h0 : sp_in x (z 0) = false → Ret (some (.int 0)) h) (h1 : ∀ k, k < z 0 → x = nI k → rd_ok (DD k) → ∀ h', ax_same md_F h h' → hm_at h' k (DD k) → Ret (some (.int 1)) h') : mX10_hand g [.ref 77, .int x] h Ret := by
  refine c_mhand (n := z 0) (DD := DD) a (K.1 0 (by decide)) (T.1 0 (by decide)) (fun ρ hρ => ⟨by have := T.2.1 ρ hρ; rwa [Nat.mul_zero, Nat.zero_add] at this, rd_de_of (K.2.1 ρ hρ)⟩) h0 (fun ρ hρ ex h' hs c w => ?_)
  have ok := K.2.1 ρ hρ
  refine h1 ρ hρ ex ok h' (sm_mono hs.1 (fun x hx => ?_)) ⟨⟨c.1, c.2.1, c.2.2.1, fun p q hp hq => ?_⟩, w⟩
  · unfold hd_F at hx; unfold md_F; omega
  · rw [c.2.2.2 p q hp hq]
    exact vb_vl (rd_de_of ok) hp hq ok.1.2 ok.2.1 ok.2.2.2.1
/-- the reference's first step in each method -/
theorem q_code {v : Int32} (a : mo_st h 77) (T : tm_at h 77 0 z DD N C) : mo_st (ax_pi h 77 0 v) 77 ∧ tm_at (ax_pi h 77 0 v) 77 0 z DD N C ∧ ax_same md_F h (ax_pi h 77 0 v) := by
  have hs : ax_same md_F h (ax_pi h 77 0 v) := sm_pi (Or.inl rfl)
  exact ⟨mo_st_same hs a, tm_at_same hs (fun j hj q => by unfold md_F at q; omega) T, hs⟩
theorem c_misOne {m ρ : Nat} {D : rD} {mo : Nat → Int32} {x : Int32} (b : mb_at h m ρ D mo) (hq : Ret (some (.int (b2i (sp_in x (dP D))))) h) : mX10_isOne g [.ref m, .int x] h Ret := by
  refine eX10_isOne ⟨b.1.1, ?_⟩
  rw [b.2.2.2.2.2.1]
  exact c_minN (by have := b.2.2.1.1.2; omega) ⟨_, rfl, b01, hq⟩
theorem c_misHour {m ρ : Nat} {D : rD} {mo : Nat → Int32} {x : Int32} (b : mb_at h m ρ D mo) (hq : Ret (some (.int (b2i (sp_in x (dH D))))) h) : mX10_isHour g [.ref m, .int x] h Ret := by
  refine eX10_isHour ⟨b.1.1, ?_⟩
  rw [b.2.2.2.2.1]
  exact c_minN (by have := b.2.2.1.1.1; omega) ⟨_, rfl, b01, hq⟩
theorem q_handOne {x y : Int32} (a : mo_st h 77) (T : tm_at h 77 0 z DD N C) (K : tk z DD N C) (h0 : ∀ h', ax_same md_F h h' → (∀ k, k < z 0 → x = nI k → sp_in y (dP (DD k)) = false) → Ret (some (.int 0)) h') (h1 : ∀ k p, k < z 0 → x = nI k → rd_ok (DD k) → p < dP (DD k) → y = nI p → ∀ h', ax_same md_F h h' → hm_at h' k (DD k) → Ret (some (.int 1)) h') : mX10_handOne g [.ref 77, .int x, .int y] h Ret := by
  refine eX10_handOne ⟨a.1, q_hand a T K (fun q => ⟨_, rfl, fun _ => ⟨Or.inl rfl, h0 h sm_rf (fun k hk ex => ?_)⟩, fun q2 => absurd rfl q2⟩) (fun k hk ex ok h' hs hm => ⟨_, rfl, fun q => absurd q (by decide), fun _ => ⟨hm.1.1.1.1, c_misOne hm.1.1 ⟨_, rfl, fun q => ⟨Or.inl rfl, h0 h' hs (fun k2 hk2 ex2 => ?_)⟩, fun q => ⟨Or.inr rfl, ?_⟩⟩⟩⟩)⟩
  · rw [ex, sp_in_nI (by have := K.1 0 (by decide); omega) hk] at q; cases q
  · have : k2 = k := (nI_eq (by have := K.1 0 (by decide); omega) (by have := K.1 0 (by decide); omega)).mp (ex2.symm.trans ex)
    subst this
    exact b2i_0.mp q
  · obtain ⟨p, hp, ep⟩ := sp_in_ix (by have := ok.2.1; omega) (b2i_n0.mp q)
    exact h1 k p hk ex ok hp ep h' hs hm
end
end

section
section
/-! numbers that stay in range -/
theorem i64_add {x y : Int64} (h1 : -9223372036854775808 ≤ x.toInt + y.toInt) (h2 : x.toInt + y.toInt < 9223372036854775808) : (x + y).toInt = x.toInt + y.toInt := by
  rw [Int64.toInt_add]; exact Int.bmod_eq_of_le (by omega) (by omega)
theorem i64_sub {x y : Int64} (h1 : -9223372036854775808 ≤ x.toInt - y.toInt) (h2 : x.toInt - y.toInt < 9223372036854775808) : (x - y).toInt = x.toInt - y.toInt := by
  rw [Int64.toInt_sub]; exact Int.bmod_eq_of_le (by omega) (by omega)
theorem i64_mul {x y : Int64} (h1 : -9223372036854775808 ≤ x.toInt * y.toInt) (h2 : x.toInt * y.toInt < 9223372036854775808) : (x * y).toInt = x.toInt * y.toInt := by
  rw [Int64.toInt_mul]; exact Int.bmod_eq_of_le (by omega) (by omega)
theorem i32_add {x y : Int32} (h1 : -2147483648 ≤ x.toInt + y.toInt) (h2 : x.toInt + y.toInt < 2147483648) : (x + y).toInt = x.toInt + y.toInt := by
  rw [Int32.toInt_add]; exact Int.bmod_eq_of_le (by omega) (by omega)
theorem i32_sub {x y : Int32} (h1 : -2147483648 ≤ x.toInt - y.toInt) (h2 : x.toInt - y.toInt < 2147483648) : (x - y).toInt = x.toInt - y.toInt := by
  rw [Int32.toInt_sub]; exact Int.bmod_eq_of_le (by omega) (by omega)
theorem i32_mul {x y : Int32} (h1 : -2147483648 ≤ x.toInt * y.toInt) (h2 : x.toInt * y.toInt < 2147483648) : (x * y).toInt = x.toInt * y.toInt := by
  rw [Int32.toInt_mul]; exact Int.bmod_eq_of_le (by omega) (by omega)
theorem i32_neg {x : Int32} (h1 : -2147483648 < x.toInt) : (-x).toInt = -x.toInt := by
  have := Int32.toInt_lt x
  rw [Int32.toInt_neg]; exact Int.bmod_eq_of_le (by omega) (by omega)
theorem i_64 (x : Int32) : x.toInt64.toInt = x.toInt := Int32.toInt_toInt64 x
theorem i_bd (x : Int32) : -2147483648 ≤ x.toInt ∧ x.toInt < 2147483648 := ⟨Int32.le_toInt x, Int32.toInt_lt x⟩
theorem i_inj {x y : Int32} (h : x.toInt = y.toInt) : x = y := Int32.toInt_inj.mp h
theorem i_lt {x y : Int32} : x < y ↔ x.toInt < y.toInt := Int32.lt_iff_toInt_lt
theorem i_le {x y : Int32} : x ≤ y ↔ x.toInt ≤ y.toInt := Int32.le_iff_toInt_le
/-- sums of numbers between a and b -/
theorem sumN_bd {f : Nat → Int32} {a b : Int} : ∀ {n : Nat}, (∀ i, i < n → a ≤ (f i).toInt ∧ (f i).toInt ≤ b) → a ≤ 0 → 0 ≤ b → -2147483648 ≤ a * n → b * n < 2147483648 → a * n ≤ (sumN f n).toInt ∧ (sumN f n).toInt ≤ b * n
  | 0, _, _, _, _, _ => by
    show a * ((0 : Nat) : Int) ≤ 0 ∧ 0 ≤ b * ((0 : Nat) : Int)
    simp
  | n + 1, h, ha, hb, h1, h2 => by
    have e1 : a * ((n + 1 : Nat) : Int) = a * n + a := by rw [Int.natCast_add, Int.mul_add]; simp
    have e2 : b * ((n + 1 : Nat) : Int) = b * n + b := by rw [Int.natCast_add, Int.mul_add]; simp
    rw [e1] at h1 ⊢
    rw [e2] at h2 ⊢
    have ih := sumN_bd (n := n) (fun i hi => h i (by omega)) ha hb (by omega) (by omega)
    have hn := h n (Nat.lt_succ_self n)
    show _ ≤ (sumN f n + f n).toInt ∧ (sumN f n + f n).toInt ≤ _
    rw [i32_add (by omega) (by omega)]
    omega
theorem sumL_bd {f : Nat → Int64} {a b : Int} : ∀ {n : Nat}, (∀ i, i < n → a ≤ (f i).toInt ∧ (f i).toInt ≤ b) → a ≤ 0 → 0 ≤ b → -9223372036854775808 ≤ a * n → b * n < 9223372036854775808 → a * n ≤ (sumL f n).toInt ∧ (sumL f n).toInt ≤ b * n
  | 0, _, _, _, _, _ => by
    show a * ((0 : Nat) : Int) ≤ 0 ∧ 0 ≤ b * ((0 : Nat) : Int)
    simp
  | n + 1, h, ha, hb, h1, h2 => by
    have e1 : a * ((n + 1 : Nat) : Int) = a * n + a := by rw [Int.natCast_add, Int.mul_add]; simp
    have e2 : b * ((n + 1 : Nat) : Int) = b * n + b := by rw [Int.natCast_add, Int.mul_add]; simp
    rw [e1] at h1 ⊢
    rw [e2] at h2 ⊢
    have ih := sumL_bd (n := n) (fun i hi => h i (by omega)) ha hb (by omega) (by omega)
    have hn := h n (Nat.lt_succ_self n)
    show _ ≤ (sumL f n + f n).toInt ∧ (sumL f n + f n).toInt ≤ _
    rw [i64_add (by omega) (by omega)]
    omega
/-- the lots' sums -/
theorem sp_lo_bd {D : rD} (ok : rd_ok D) (x y : Int32) : 0 ≤ (sp_lo D x y).toInt ∧ (sp_lo D x y).toInt ≤ 9 := by
  unfold sp_lo
  split
  · rename_i q
    rw [Bool.and_eq_true] at q
    obtain ⟨p, hp, rfl⟩ := sp_in_ix (by have := ok.2.1; omega) q.1
    obtain ⟨r, hr, rfl⟩ := sp_in_ix (by have := ok.1.2; omega) q.2
    have hH := ok.1.2
    have hP := ok.2.1
    rw [nI_clamp (by omega), nI_clamp (by omega)]
    exact ok.2.2.2.2.2.2 p r hp hr
  · decide
theorem sp_ws_bd {D : rD} (ok : rd_ok D) (x : Int32) : 0 ≤ (sp_ws D x).toInt ∧ (sp_ws D x).toInt ≤ 108 := by
  have hH := ok.1.2
  have := sumN_bd (f := fun q => sp_lo D x (nI q)) (a := 0) (b := 9) (n := dH D) (fun i _ => sp_lo_bd ok x (nI i)) (by decide) (by decide) (by omega) (by omega)
  unfold sp_ws
  omega
theorem sp_t_bd {D : rD} (ok : rd_ok D) (x : Int32) : 0 < (sp_t D x).toInt ∧ (sp_t D x).toInt ≤ 108 := by
  have h1 := sp_ws_bd ok x
  have hH := ok.1
  unfold sp_t
  split
  · rw [nI_toInt (by omega)]; omega
  · rename_i q
    have : (sp_ws D x).toInt ≠ 0 := fun e => q (i_inj e)
    omega
theorem sp_w_bd {D : rD} (ok : rd_ok D) (x : Int32) (q : Nat) : 0 ≤ (sp_w D x q).toInt ∧ (sp_w D x q).toInt ≤ 9 := by
  unfold sp_w
  split
  · decide
  · exact sp_lo_bd ok x (nI q)
/-- weighed sums of any ints stay in range -/
theorem sp_we_bd {P H : Nat} {vl : Nat → Nat → Int32} {w : Nat → Int32} {x : Int32} (hH : H ≤ 12) (hw : ∀ q, 0 ≤ (w q).toInt ∧ (w q).toInt ≤ 9) : -231928233984 ≤ (sp_we P H vl w x).toInt ∧ (sp_we P H vl w x).toInt ≤ 231928233984 := by
  have key : ∀ q, -19327352832 ≤ ((w q).toInt64 * (sp_br P H vl x (nI q)).toInt64).toInt ∧ ((w q).toInt64 * (sp_br P H vl x (nI q)).toInt64).toInt ≤ 19327352832 := by
    intro q
    have h1 := hw q
    have h2 := i_bd (sp_br P H vl x (nI q))
    have e1 := i_64 (w q)
    have e2 := i_64 (sp_br P H vl x (nI q))
    generalize (sp_br P H vl x (nI q)).toInt = v at h2 e2
    generalize (w q).toInt = u at h1 e1
    have m1 : u * v ≤ 19327352832 := by
      rcases Int.le_total 0 v with hv | hv
      · have := Int.mul_le_mul_of_nonneg_right (a := u) (b := 9) (c := v) h1.2 hv
        omega
      · have := Int.mul_nonneg h1.1 (Int.neg_nonneg_of_nonpos hv)
        rw [Int.mul_neg] at this
        omega
    have m2 : -19327352832 ≤ u * v := by
      rcases Int.le_total 0 v with hv | hv
      · have := Int.mul_nonneg h1.1 hv
        omega
      · have := Int.mul_le_mul_of_nonneg_right (a := u) (b := 9) (c := -v) h1.2 (Int.neg_nonneg_of_nonpos hv)
        rw [Int.mul_neg] at this
        omega
    rw [i64_mul (by rw [e1, e2]; omega) (by rw [e1, e2]; omega), e1, e2]
    omega
  have := sumL_bd (f := fun q => (w q).toInt64 * (sp_br P H vl x (nI q)).toInt64) (a := -19327352832) (b := 19327352832) (n := H) (fun i _ => key i) (by decide) (by decide) (by omega) (by omega)
  unfold sp_we
  omega
end
end

section
section
variable {g : ax_G} {Ret : Option Value → ax_H → Prop} {h : ax_H}
section
variable {m ρ : Nat} {D : rD} {mo pu w : Nat → Int32} {vl : Nat → Nat → Int32} {t po : Int32}
theorem c_mmeanOf {p : Nat} (a : mc_at h m ρ D mo pu vl) (b : mw_at h m (dH D) w t po) (hp : p < dP D) (hq : Ret (some (.long (sp_we (dP D) (dH D) vl w (nI p)))) h) : mX10_meanOf g [.ref m, .int (nI p)] h Ret := by
  obtain ⟨hH, hP⟩ := a.1.2.2.1.1
  have s0 := a.1.1.1
  have e26 := a.1.2.2.2.2.1
  obtain ⟨e1, e2⟩ := mo_we a.1.1
  obtain ⟨f1, f2⟩ := mo_va a.1.1
  refine uX10_meanOf (fun A hA => vX10_meanOf_0 hA ?_)
  have key : ∀ n i : Nat, i + n = dH D → A (5, [some (.ref m), some (.int (nI p)), some (.long (sumL (fun q => (w q).toInt64 * (sp_br (dP D) (dH D) vl (nI p) (nI q)).toInt64) i)), none, some (.int (nI i))], [], h, 0, 0) := by
    intro n
    induction n with
    | zero =>
      intro i hi
      refine vX10_meanOf_5 hA ⟨s0, fun _ => ?_, fun q => ?_⟩
      · rw [show i = dH D by omega]; exact hq
      · rw [e26] at q; exact absurd (nI_le (by omega) (by omega)) q
    | succ n ih =>
      intro i hi
      have ei : (12 : Int32) * nI p + nI i = nI (12 * p + i) := ni_21
      refine vX10_meanOf_5 hA ⟨s0, fun q => ?_, fun _ => ⟨s0, _, e1, by rw [e2], by rw [e2]; exact vp_in_nI (by omega) (by decide), s0, _, f1, by rw [f2], by rw [ei, f2]; exact vp_in_nI (by omega) (by decide), ?_⟩⟩
      · rw [e26] at q; exact absurd q (nI_ge (by omega) (by omega))
      · rw [ei, nI_clamp (by omega), nI_clamp (by omega), b.1 i (by omega), a.2.2.2 p i hp (by omega), ← sp_br_in (vl := vl) hp (show i < dH D by omega) hP hH, ← nI_succ]
        exact ih (i + 1) (by omega)
  exact key (dH D) 0 (by omega)
/-- what an hour is worth more than a day is to bring, times all weights -/
def sp_ga (P H : Nat) (vl : Nat → Nat → Int32) (w : Nat → Int32) (t x y : Int32) : Int64 := (sp_br P H vl x y).toInt64 * t.toInt64 - sp_we P H vl w x
theorem c_mgainOf {p q : Nat} (a : mc_at h m ρ D mo pu vl) (b : mw_at h m (dH D) w t po) (hp : p < dP D) (hq0 : q < dH D) (hq : Ret (some (.long (sp_ga (dP D) (dH D) vl w t (nI p) (nI q)))) h) : mX10_gainOf g [.ref m, .int (nI p), .int (nI q)] h Ret := by
  obtain ⟨hH, hP⟩ := a.1.2.2.1.1
  have s0 := a.1.1.1
  obtain ⟨f1, f2⟩ := mo_va a.1.1
  have ei : (12 : Int32) * nI p + nI q = nI (12 * p + q) := ni_21
  refine eX10_gainOf ⟨s0, s0, _, f1, by rw [f2], by rw [ei, f2]; exact vp_in_nI (by omega) (by decide), ?_⟩
  refine ⟨s0, c_mmeanOf a b hp ⟨_, rfl, ?_⟩⟩
  rw [ei, nI_clamp (by omega), a.2.2.2 p q hp hq0, b.2.1]
  unfold sp_ga at hq
  rw [sp_br_in hp hq0 hP hH, Int64.mul_comm] at hq
  exact hq
theorem c_mallBy {q : Nat} (a : mc_at h m ρ D mo pu vl) (hq0 : q < dH D) (hq : Ret (some (.int (sp_br (dP D) (dH D) vl (-1) (nI q)))) h) : mX10_allBy g [.ref m, .int (nI q)] h Ret := by
  obtain ⟨hH, hP⟩ := a.1.2.2.1.1
  have s0 := a.1.1.1
  have e27 := a.1.2.2.2.2.2.1
  obtain ⟨f1, f2⟩ := mo_va a.1.1
  have eb : sp_br (dP D) (dH D) vl (-1) (nI q) = sumN (fun p => vl p q) (dP D) := by
    unfold sp_br
    rw [if_neg, if_pos (by decide), nI_clamp (by omega)]
    rintro (z | z | z)
    · exact nI_pos (by omega) z
    · exact nI_ge hq0 (by omega) z
    · have := i_le.mp z
      rw [nI_toInt (by omega)] at this
      exact absurd this (by show ¬ ((_ : Int) ≤ -1); omega)
  rw [eb] at hq
  refine uX10_allBy (fun A hA => vX10_allBy_0 hA ?_)
  have key : ∀ n i : Nat, i + n = dP D → A (4, [some (.ref m), some (.int (nI q)), some (.int (sumN (fun p => vl p q) i)), some (.int (nI i))], [], h, 0, 0) := by
    intro n
    induction n with
    | zero =>
      intro i hi
      refine vX10_allBy_4 hA ⟨s0, fun _ => ?_, fun z => ?_⟩
      · rw [show i = dP D by omega]; exact hq
      · rw [e27] at z; exact absurd (nI_le (by omega) (by omega)) z
    | succ n ih =>
      intro i hi
      have ei : (12 : Int32) * nI i + nI q = nI (12 * i + q) := ni_21
      refine vX10_allBy_4 hA ⟨s0, fun z => ?_, fun _ => ⟨s0, _, f1, by rw [f2], by rw [ei, f2]; exact vp_in_nI (by omega) (by decide), ?_⟩⟩
      · rw [e27] at z; exact absurd z (nI_ge (by omega) (by omega))
      · rw [ei, nI_clamp (by omega), a.2.2.2 i q (by omega) hq0, ← nI_succ]
        exact ih (i + 1) (by omega)
  exact key (dP D) 0 (by omega)
theorem c_mwishOf {p : Nat} (hH1 : 1 ≤ dH D) (a : mc_at h m ρ D mo pu vl) (hp : p < dP D) (hq : Ret (some (.int (sp_bh (dP D) (dH D) vl (nI p)))) h) : mX10_wishOf g [.ref m, .int (nI p)] h Ret := by
  obtain ⟨hH, hP⟩ := a.1.2.2.1.1
  have s0 := a.1.1.1
  have e26 := a.1.2.2.2.2.1
  obtain ⟨f1, f2⟩ := mo_va a.1.1
  refine uX10_wishOf (fun A hA => vX10_wishOf_0 hA ?_)
  have key : ∀ n i : Nat, i + 1 + n = dH D → A (4, [some (.ref m), some (.int (nI p)), some (.int (nI (bst (fun q => sp_br (dP D) (dH D) vl (nI p) (nI q)) i))), some (.int (nI (i + 1)))], [], h, 0, 0) := by
    intro n
    induction n with
    | zero =>
      intro i hi
      refine vX10_wishOf_4 hA ⟨s0, fun _ => ?_, fun z => ?_⟩
      · unfold sp_bh at hq; rw [show dH D - 1 = i by omega] at hq; exact hq
      · rw [e26] at z; exact absurd (nI_le (by omega) (by omega)) z
    | succ n ih =>
      intro i hi
      have hb := bst_le (fun q => sp_br (dP D) (dH D) vl (nI p) (nI q)) i
      have e1 : (12 : Int32) * nI p + nI (i + 1) = nI (12 * p + (i + 1)) := ni_21
      have e2 : (12 : Int32) * nI p + nI (bst (fun q => sp_br (dP D) (dH D) vl (nI p) (nI q)) i) = nI (12 * p + bst (fun q => sp_br (dP D) (dH D) vl (nI p) (nI q)) i) := ni_21
      have v1 : ax_i h (m + 15) (12 * p + (i + 1)) = sp_br (dP D) (dH D) vl (nI p) (nI (i + 1)) := by rw [a.2.2.2 p (i + 1) hp (by omega), sp_br_in hp (by omega) hP hH]
      have v2 : ax_i h (m + 15) (12 * p + bst (fun q => sp_br (dP D) (dH D) vl (nI p) (nI q)) i) = sp_br (dP D) (dH D) vl (nI p) (nI (bst (fun q => sp_br (dP D) (dH D) vl (nI p) (nI q)) i)) := by rw [a.2.2.2 p _ hp (by omega), sp_br_in hp (by omega) hP hH]
      refine vX10_wishOf_4 hA ⟨s0, fun z => ?_, fun _ => ⟨s0, _, f1, by rw [f2], by rw [e1, f2]; exact vp_in_nI (by omega) (by decide), s0, _, f1, by rw [f2], by rw [e2, f2]; exact vp_in_nI (by omega) (by decide), fun z => ?_, fun z => ?_⟩⟩
      · rw [e26] at z; exact absurd z (nI_ge (by omega) (by omega))
      · rw [e1, e2, nI_clamp (by omega), nI_clamp (by omega), v1, v2] at z
        have := ih (i + 1) (by omega)
        rw [show bst (fun q => sp_br (dP D) (dH D) vl (nI p) (nI q)) (i + 1) = bst (fun q => sp_br (dP D) (dH D) vl (nI p) (nI q)) i from if_neg (nt_lt.mpr z)] at this
        rw [← nI_succ]; exact this
      · rw [e1, e2, nI_clamp (by omega), nI_clamp (by omega), v1, v2] at z
        have := ih (i + 1) (by omega)
        rw [show bst (fun q => sp_br (dP D) (dH D) vl (nI p) (nI q)) (i + 1) = i + 1 from if_pos (nt_le.mp z)] at this
        rw [← nI_succ]; exact this
  exact key (dH D - 1) 0 (by omega)
theorem c_mchoice (hH1 : 1 ≤ dH D) (a : mc_at h m ρ D mo pu vl) (hq : Ret (some (.int (sp_bh (dP D) (dH D) vl (-1)))) h) : mX10_choice g [.ref m] h Ret := by
  obtain ⟨hH, hP⟩ := a.1.2.2.1.1
  have s0 := a.1.1.1
  have e26 := a.1.2.2.2.2.1
  refine uX10_choice (fun A hA => vX10_choice_0 hA ?_)
  have key : ∀ n i : Nat, i + 1 + n = dH D → A (4, [some (.ref m), some (.int (nI (bst (fun q => sp_br (dP D) (dH D) vl (-1) (nI q)) i))), some (.int (nI (i + 1)))], [], h, 0, 0) := by
    intro n
    induction n with
    | zero =>
      intro i hi
      refine vX10_choice_4 hA ⟨s0, fun _ => ?_, fun z => ?_⟩
      · unfold sp_bh at hq; rw [show dH D - 1 = i by omega] at hq; exact hq
      · rw [e26] at z; exact absurd (nI_le (by omega) (by omega)) z
    | succ n ih =>
      intro i hi
      have hb := bst_le (fun q => sp_br (dP D) (dH D) vl (-1) (nI q)) i
      refine vX10_choice_4 hA ⟨s0, fun z => ?_, fun _ => ⟨s0, c_mallBy a (by omega) ⟨_, rfl, s0, c_mallBy a (by omega) ⟨_, rfl, fun z => ?_, fun z => ?_⟩⟩⟩⟩
      · rw [e26] at z; exact absurd z (nI_ge (by omega) (by omega))
      · have := ih (i + 1) (by omega)
        rw [show bst (fun q => sp_br (dP D) (dH D) vl (-1) (nI q)) (i + 1) = bst (fun q => sp_br (dP D) (dH D) vl (-1) (nI q)) i from if_neg (nt_lt.mpr z)] at this
        rw [← nI_succ]; exact this
      · have := ih (i + 1) (by omega)
        rw [show bst (fun q => sp_br (dP D) (dH D) vl (-1) (nI q)) (i + 1) = i + 1 from if_pos (nt_le.mp z)] at this
        rw [← nI_succ]; exact this
  exact key (dH D - 1) 0 (by omega)
end
variable {z : Nat → Nat} {DD : Nat → rD} {N : Nat → Nat → Nat} {C : Nat → Nat → Nat → Nat → Int32}
/-- an answer about a republic -/
def qv (z0 : Nat) (DD : Nat → rD) (x d : Int32) (f : rD → Int32) : Int32 := if sp_in x z0 then f (DD x.toNatClampNeg) else d
theorem qv_no {z0 : Nat} {x d : Int32} {f : rD → Int32} (hx : sp_in x z0 = false) : qv z0 DD x d f = d := by unfold qv; rw [hx]; rfl
theorem qv_yes {z0 k : Nat} {x d : Int32} {f : rD → Int32} (hz : z0 ≤ 2) (hk : k < z0) (hx : x = nI k) : qv z0 DD x d f = f (DD k) := by
  unfold qv
  rw [hx, sp_in_nI (by omega) hk, nI_clamp (by omega)]
  rfl
/-! VALUE -/
def s_value (x2 x3 : Int32) (D : rD) : Int32 := if (decide (x2 = -1) || sp_in x2 (dP D)) && sp_in x3 (dH D) then sp_br (dP D) (dH D) (sp_vl D) x2 x3 else -1000000
theorem q9_value {x1 x2 x3 : Int32} (a : tc h z DD N C) (hq : ∀ h', ax_same cl_F h h' → Ret (some (.int (qv (z 0) DD x1 (-1000000) (s_value x2 x3)))) h') : mX9_value g [.ref 0, .int x1, .int x2, .int x3] h Ret := by
  have z2 := a.2.2.2.2.1 0 (by decide)
  refine eX9_value ⟨a.1.1, q_begun a (fun q => Or.inr ⟨rfl, ?_⟩) (fun k hk ex ok h' hs xs hc => Or.inl ⟨_, rfl, hc.1.1.1, c_hasPersonOrAll hc.1 ⟨_, rfl, fun q1 => ?_, fun q1 => ⟨hc.1.1.1, c_hasHour hc.1 ⟨_, rfl, fun q2 => ⟨xs.1, _, xs.2.1.2.2.2.1, hc.2.1.1.1, c_brings hc.2.1 ⟨_, rfl, ?_⟩⟩, fun q2 => ?_⟩⟩⟩⟩)⟩
  · have := hq h sm_rf; rwa [qv_no q] at this
  · have := hq h' hs
    rw [qv_yes z2 hk ex] at this
    unfold s_value at this
    rw [b2i_0.mp q1] at this
    exact this
  · have := hq h' hs
    rw [qv_yes z2 hk ex] at this
    unfold s_value at this
    rw [b2i_n0.mp q1, b2i_n0.mp q2] at this
    exact this
  · have := hq h' hs
    rw [qv_yes z2 hk ex] at this
    unfold s_value at this
    rw [b2i_0.mp q2, Bool.and_false] at this
    exact this
theorem q10_value {x1 x2 x3 : Int32} (a : tc h z DD N C) (hq : ∀ h', ax_same md_F h h' → Ret (some (.int (qv (z 0) DD x1 (-1000000) (s_value x2 x3)))) h') : mX10_value g [.ref 77, .int x1, .int x2, .int x3] h Ret := by
  have z2 := a.2.2.2.2.1 0 (by decide)
  refine eX10_value ⟨a.2.1.1, ?_⟩
  intro h1
  obtain ⟨a1, T1, hs1⟩ := q_code (v := 0) a.2.1 a.2.2.2.1
  refine ⟨a1.1, q_hand a1 T1 a.2.2.2.2 (fun q => ⟨_, rfl, fun _ => ?_, fun q2 => absurd rfl q2⟩) (fun k hk ex ok h' hs hm => ⟨_, rfl, fun q => absurd q (by decide), fun _ => ⟨hm.1.1.1.1, c_misHour hm.1.1 ⟨_, rfl, fun q1 => ?_, fun q1 => ?_⟩⟩⟩)⟩
  · have := hq _ hs1; rwa [qv_no q] at this
  · have := hq h' (sm_tr hs1 hs)
    rw [qv_yes z2 hk ex] at this
    unfold s_value at this
    rw [b2i_0.mp q1, Bool.and_false] at this
    exact this
  · obtain ⟨y, hy, rfl⟩ := sp_in_ix (by have := ok.1.2; omega) (b2i_n0.mp q1)
    have hv := hq h' (sm_tr hs1 hs)
    rw [qv_yes z2 hk ex] at hv
    unfold s_value at hv
    rw [b2i_n0.mp q1, Bool.and_true] at hv
    have s0 := hm.1.1.1.1
    obtain ⟨f1, f2⟩ := mo_va hm.1.1.1
    obtain ⟨hH, hP⟩ := hm.1.1.2.2.1.1
    refine ⟨fun e => ⟨fun ne => absurd e ne, fun _ => ⟨s0, ?_⟩⟩, fun ne => ⟨s0, c_misOne hm.1.1 ⟨_, rfl, fun q2 => ⟨fun _ => ?_, fun e => absurd e ne⟩, fun q2 => ?_⟩⟩⟩
    · subst e
      exact c_mallBy hm.1 hy ⟨_, rfl, hv⟩
    · obtain ⟨p, hp, rfl⟩ := sp_in_ix (by omega) (b2i_n0.mp q2)
      have ei : (12 : Int32) * nI p + nI y = nI (12 * p + y) := ni_21
      rw [b2i_n0.mp q2, Bool.or_true, if_pos rfl, sp_br_in hp hy hP hH] at hv
      refine ⟨s0, _, f1, by rw [f2], by rw [ei, f2]; exact vp_in_nI (by omega) (by decide), ?_⟩
      rw [ei, nI_clamp (by omega), hm.1.2.2.2 p y hp hy]
      exact hv
    · rw [b2i_0.mp q2, decide_eq_false ne] at hv
      exact hv
end
end

section
section
variable {g : ax_G} {Ret : Option Value → ax_H → Prop} {h : ax_H} {z : Nat → Nat} {DD : Nat → rD} {N : Nat → Nat → Nat} {C : Nat → Nat → Nat → Nat → Int32}
/-- a share of all weights -/
def s_sh (a : Int64) (D : rD) (u : Int32) : Int32 := (sp_sd a (sp_t D (rul D)).toInt64 u).toInt32
theorem t_pos {D : rD} (ok : rd_ok D) : 0 < (sp_t D (rul D)).toInt64.toInt := by rw [i_64]; exact (sp_t_bd ok _).1
/-! ODDS -/
def s_odds (x2 u : Int32) (D : rD) : Int32 := if sp_in x2 (dH D) then s_sh (sp_w D (rul D) x2.toNatClampNeg).toInt64 D u else -1
theorem w_big {D : rD} (ok : rd_ok D) (x : Int32) (q : Nat) : -9223372036854775808 < (sp_w D x q).toInt64.toInt := by
  have := sp_w_bd ok x q
  rw [i_64]; omega
theorem q9_odds {x1 x2 u : Int32} (a : tc h z DD N C) (hq : ∀ h', ax_same cl_F h h' → Ret (some (.int (qv (z 0) DD x1 (-1) (s_odds x2 u)))) h') : mX9_odds g [.ref 0, .int x1, .int x2, .int u] h Ret := by
  have z2 := a.2.2.2.2.1 0 (by decide)
  refine eX9_odds ⟨a.1.1, q_begun a (fun q => Or.inr ⟨rfl, ?_⟩) (fun k hk ex ok h' hs xs hc => Or.inl ⟨_, rfl, hc.1.1.1, c_hasHour hc.1 ⟨_, rfl, fun q1 => ?_, fun q1 => ?_⟩⟩)⟩
  · have := hq h sm_rf; rwa [qv_no q] at this
  · have hv := hq h' hs
    rw [qv_yes z2 hk ex] at hv
    unfold s_odds at hv
    rw [b2i_n0.mp q1, if_pos rfl] at hv
    obtain ⟨y, hy, rfl⟩ := sp_in_ix (by have := ok.1.2; omega) (b2i_n0.mp q1)
    obtain ⟨⟨so, ro, sw⟩, hH, -, e2, ew⟩ := hc.2.2
    have x4 := xs.2.1.2.2.2.2.1
    rw [nI_clamp (by omega)] at hv
    refine ⟨xs.1, _, x4, so, _, ro, by rw [sw], by rw [sw]; exact vp_in_nI (by omega) (by decide), xs.1, _, x4, so, ?_⟩
    rw [nI_clamp (by omega), ew y hy, e2]
    exact c_side (w_big ok _ _) (t_pos ok) ⟨_, rfl, hv⟩
  · have hv := hq h' hs
    rw [qv_yes z2 hk ex] at hv
    unfold s_odds at hv
    rw [b2i_0.mp q1] at hv
    exact hv
theorem q10_odds {x1 x2 u : Int32} (a : tc h z DD N C) (hq : ∀ h', ax_same md_F h h' → Ret (some (.int (qv (z 0) DD x1 (-1) (s_odds x2 u)))) h') : mX10_odds g [.ref 77, .int x1, .int x2, .int u] h Ret := by
  have z2 := a.2.2.2.2.1 0 (by decide)
  refine eX10_odds ⟨a.2.1.1, ?_⟩
  intro h1
  obtain ⟨a1, T1, hs1⟩ := q_code (v := 0) a.2.1 a.2.2.2.1
  refine ⟨a1.1, q_hand a1 T1 a.2.2.2.2 (fun q => ⟨_, rfl, fun _ => ?_, fun q2 => absurd rfl q2⟩) (fun k hk ex ok h' hs hm => ⟨_, rfl, fun q => absurd q (by decide), fun _ => ⟨hm.1.1.1.1, c_misHour hm.1.1 ⟨_, rfl, fun q1 => ?_, fun q1 => ?_⟩⟩⟩)⟩
  · have := hq _ hs1; rwa [qv_no q] at this
  · have hv := hq h' (sm_tr hs1 hs)
    rw [qv_yes z2 hk ex] at hv
    unfold s_odds at hv
    rw [b2i_0.mp q1] at hv
    exact hv
  · have hv := hq h' (sm_tr hs1 hs)
    rw [qv_yes z2 hk ex] at hv
    unfold s_odds at hv
    rw [b2i_n0.mp q1, if_pos rfl] at hv
    obtain ⟨y, hy, rfl⟩ := sp_in_ix (by have := ok.1.2; omega) (b2i_n0.mp q1)
    have hH := ok.1.2
    have s0 := hm.1.1.1.1
    obtain ⟨f1, f2⟩ := mo_we hm.1.1.1
    rw [nI_clamp (by omega)] at hv
    refine ⟨s0, _, f1, by rw [f2], by rw [f2]; exact vp_in_nI (by omega) (by decide), s0, ?_⟩
    rw [nI_clamp (by omega), hm.2.1 y hy, hm.2.2.1]
    exact c_part (w_big ok _ _) (t_pos ok) ⟨_, rfl, hv⟩
/-! MEAN -/
def s_we (D : rD) (x : Int32) : Int64 := sp_we (dP D) (dH D) (sp_vl D) (sp_w D (rul D)) x
theorem we_big {D : rD} (ok : rd_ok D) (x : Int32) : -9223372036854775808 < (s_we D x).toInt := by
  have := sp_we_bd (P := dP D) (vl := sp_vl D) (w := sp_w D (rul D)) (x := x) ok.1.2 (sp_w_bd ok (rul D))
  unfold s_we; omega
def s_mean (x2 u : Int32) (D : rD) : Int32 := if sp_in x2 (dP D) then s_sh (s_we D x2) D u else -1000000
theorem q9_mean {x1 x2 u : Int32} (a : tc h z DD N C) (hq : ∀ h', ax_same cl_F h h' → Ret (some (.int (qv (z 0) DD x1 (-1000000) (s_mean x2 u)))) h') : mX9_mean g [.ref 0, .int x1, .int x2, .int u] h Ret := by
  have z2 := a.2.2.2.2.1 0 (by decide)
  refine eX9_mean ⟨a.1.1, q_begun a (fun q => Or.inr ⟨rfl, ?_⟩) (fun k hk ex ok h' hs xs hc => Or.inl ⟨_, rfl, hc.1.1.1, c_hasPerson hc.1 ⟨_, rfl, fun q1 => ?_, fun q1 => ?_⟩⟩)⟩
  · have := hq h sm_rf; rwa [qv_no q] at this
  · have hv := hq h' hs
    rw [qv_yes z2 hk ex] at hv
    unfold s_mean at hv
    rw [b2i_n0.mp q1, if_pos rfl] at hv
    refine ⟨xs.1, _, xs.2.1.2.2.2.1, xs.1, _, xs.2.1.2.2.2.2.1, hc.2.1.1.1, c_weighed hc.2.1 hc.2.2 (Nat.le_refl _) ⟨_, rfl, xs.1, _, xs.2.1.2.2.2.2.1, hc.2.2.1.1, ?_⟩⟩
    rw [hc.2.2.2.2.2.1]
    exact c_side (we_big ok _) (t_pos ok) ⟨_, rfl, hv⟩
  · have hv := hq h' hs
    rw [qv_yes z2 hk ex] at hv
    unfold s_mean at hv
    rw [b2i_0.mp q1] at hv
    exact hv
/-- the reference's way into a republic and a person -/
theorem q_one {x1 x2 d : Int32} {f : rD → Int32} {K : Option Value → ax_H → Prop} (a : tc h z DD N C) (hq : ∀ h', ax_same md_F h h' → Ret (some (.int (qv (z 0) DD x1 d f))) h') (hf : ∀ D, sp_in x2 (dP D) = false → f D = d) (h0 : ∀ h', Ret (some (.int d)) h' → K (some (.int 0)) h') (h1 : ∀ k p, k < z 0 → rd_ok (DD k) → p < dP (DD k) → x2 = nI p → ∀ h', hm_at h' k (DD k) → (∀ h2, ax_same md_F h' h2 → Ret (some (.int (f (DD k)))) h2) → K (some (.int 1)) h') : mX10_handOne g [.ref 77, .int x1, .int x2] (ax_pi h 77 0 0) K := by
  have z2 := a.2.2.2.2.1 0 (by decide)
  obtain ⟨a1, T1, hs1⟩ := q_code (v := 0) a.2.1 a.2.2.2.1
  refine q_handOne a1 T1 a.2.2.2.2 (fun h' hs no => h0 h' ?_) (fun k p hk ex ok hp ep h' hs hm => h1 k p hk ok hp ep h' hm (fun h2 hs2 => ?_))
  · have := hq h' (sm_tr hs1 hs)
    by_cases q : sp_in x1 (z 0) = true
    · obtain ⟨k, hk, ex⟩ := sp_in_ix (by omega) q
      rw [qv_yes z2 hk ex, hf _ (no k hk ex)] at this
      exact this
    · rw [qv_no (by simpa using q)] at this
      exact this
  · have := hq h2 (sm_tr hs1 (sm_tr hs hs2))
    rw [qv_yes z2 hk ex] at this
    exact this
theorem q10_mean {x1 x2 u : Int32} (a : tc h z DD N C) (hq : ∀ h', ax_same md_F h h' → Ret (some (.int (qv (z 0) DD x1 (-1000000) (s_mean x2 u)))) h') : mX10_mean g [.ref 77, .int x1, .int x2, .int u] h Ret := by
  refine eX10_mean ⟨a.2.1.1, ?_⟩
  intro h1
  refine ⟨(q_code (v := 0) a.2.1 a.2.2.2.1).1.1, q_one (x2 := x2) a hq (fun D e => by unfold s_mean; rw [e]; rfl) (fun h' r => ⟨_, rfl, fun _ => r, fun q => absurd rfl q⟩) (fun k p hk ok hp ep h' hm hr => ⟨_, rfl, fun q => absurd q (by decide), fun _ => ⟨hm.1.1.1.1, ?_⟩⟩)⟩
  subst ep
  have hv := hr h' sm_rf
  unfold s_mean at hv
  rw [sp_in_nI (by have := ok.2.1; omega) hp, if_pos rfl] at hv
  refine c_mmeanOf hm.1 hm.2 hp ⟨_, rfl, hm.1.1.1.1, ?_⟩
  rw [hm.2.2.1]
  exact c_part (we_big ok _) (t_pos ok) ⟨_, rfl, hv⟩
/-! GAIN -/
def s_gn (D : rD) (x y : Int32) : Int64 := sp_ga (dP D) (dH D) (sp_vl D) (sp_w D (rul D)) (sp_t D (rul D)) x y
theorem gn_bd {D : rD} (ok : rd_ok D) (x y : Int32) : -463856467968 ≤ (s_gn D x y).toInt ∧ (s_gn D x y).toInt ≤ 463856467968 := by
  have h1 := sp_we_bd (P := dP D) (vl := sp_vl D) (w := sp_w D (rul D)) (x := x) ok.1.2 (sp_w_bd ok (rul D))
  have h2 := sp_t_bd ok (rul D)
  unfold s_gn sp_ga
  generalize sp_we (dP D) (dH D) (sp_vl D) (sp_w D (rul D)) x = W at h1
  have h3 := i_bd (sp_br (dP D) (dH D) (sp_vl D) x y)
  have e1 := i_64 (sp_br (dP D) (dH D) (sp_vl D) x y)
  have e2 := i_64 (sp_t D (rul D))
  generalize (sp_br (dP D) (dH D) (sp_vl D) x y).toInt64 = B at e1 ⊢
  generalize (sp_t D (rul D)).toInt64 = T at e2 ⊢
  rw [← e1] at h3
  rw [← e2] at h2
  have m1 : B.toInt * T.toInt ≤ 231928233984 := by
    rcases Int.le_total 0 B.toInt with hv | hv
    · have := Int.mul_le_mul_of_nonneg_left (a := T.toInt) (b := 108) (c := B.toInt) h2.2 hv
      omega
    · have := Int.mul_nonneg (Int.neg_nonneg_of_nonpos hv) (show 0 ≤ T.toInt by omega)
      rw [Int.neg_mul] at this
      omega
  have m2 : -231928233984 ≤ B.toInt * T.toInt := by
    rcases Int.le_total 0 B.toInt with hv | hv
    · have := Int.mul_nonneg hv (show 0 ≤ T.toInt by omega)
      omega
    · have := Int.mul_le_mul_of_nonneg_left (a := T.toInt) (b := 108) (c := -B.toInt) h2.2 (Int.neg_nonneg_of_nonpos hv)
      rw [Int.neg_mul] at this
      omega
  have e3 : (B * T).toInt = B.toInt * T.toInt := i64_mul (by omega) (by omega)
  rw [i64_sub (by rw [e3]; omega) (by rw [e3]; omega), e3]
  omega
def s_gain (x2 x3 u : Int32) (D : rD) : Int32 := if sp_in x2 (dP D) && sp_in x3 (dH D) then s_sh (s_gn D x2 x3) D u else -1000000
theorem c_gainBy {k : Nat} {D : rD} {x y : Int32} (xs : xs_st h) (hc : hc_at h k D) (hq : Ret (some (.long (s_gn D x y))) h) : mX9_gainBy g [.ref 0, .int x, .int y] h Ret := by
  have x3 := xs.2.1.2.2.2.1
  have x4 := xs.2.1.2.2.2.2.1
  refine eX9_gainBy ⟨xs.1, _, x3, hc.2.1.1.1, c_brings hc.2.1 ⟨_, rfl, xs.1, _, x4, hc.2.2.1.1, xs.1, _, x3, xs.1, _, x4, hc.2.1.1.1, c_weighed hc.2.1 hc.2.2 (Nat.le_refl _) ⟨_, rfl, ?_⟩⟩⟩
  rw [hc.2.2.2.2.2.1]
  exact hq
theorem q9_gain {x1 x2 x3 u : Int32} (a : tc h z DD N C) (hq : ∀ h', ax_same cl_F h h' → Ret (some (.int (qv (z 0) DD x1 (-1000000) (s_gain x2 x3 u)))) h') : mX9_gain g [.ref 0, .int x1, .int x2, .int x3, .int u] h Ret := by
  have z2 := a.2.2.2.2.1 0 (by decide)
  refine eX9_gain ⟨a.1.1, q_begun a (fun q => Or.inr ⟨rfl, ?_⟩) (fun k hk ex ok h' hs xs hc => Or.inl ⟨_, rfl, hc.1.1.1, c_hasPerson hc.1 ⟨_, rfl, fun q1 => ?_, fun q1 => ⟨hc.1.1.1, c_hasHour hc.1 ⟨_, rfl, fun q2 => ⟨xs.1, c_gainBy xs hc ⟨_, rfl, xs.1, _, xs.2.1.2.2.2.2.1, hc.2.2.1.1, ?_⟩⟩, fun q2 => ?_⟩⟩⟩⟩)⟩
  · have := hq h sm_rf; rwa [qv_no q] at this
  · have hv := hq h' hs
    rw [qv_yes z2 hk ex] at hv
    unfold s_gain at hv
    rw [b2i_0.mp q1] at hv
    exact hv
  · have hv := hq h' hs
    rw [qv_yes z2 hk ex] at hv
    unfold s_gain at hv
    rw [b2i_n0.mp q1, b2i_n0.mp q2, Bool.and_true, if_pos rfl] at hv
    rw [hc.2.2.2.2.2.1]
    exact c_side (by have := gn_bd ok x2 x3; omega) (t_pos ok) ⟨_, rfl, hv⟩
  · have hv := hq h' hs
    rw [qv_yes z2 hk ex] at hv
    unfold s_gain at hv
    rw [b2i_0.mp q2, Bool.and_false] at hv
    exact hv
theorem q10_gain {x1 x2 x3 u : Int32} (a : tc h z DD N C) (hq : ∀ h', ax_same md_F h h' → Ret (some (.int (qv (z 0) DD x1 (-1000000) (s_gain x2 x3 u)))) h') : mX10_gain g [.ref 77, .int x1, .int x2, .int x3, .int u] h Ret := by
  refine eX10_gain ⟨a.2.1.1, ?_⟩
  intro h1
  refine ⟨(q_code (v := 0) a.2.1 a.2.2.2.1).1.1, q_one (x2 := x2) a hq (fun D e => by unfold s_gain; rw [e]; rfl) (fun h' r => ⟨_, rfl, fun _ => r, fun q => absurd rfl q⟩) (fun k p hk ok hp ep h' hm hr => ⟨_, rfl, fun q => absurd q (by decide), fun _ => ⟨hm.1.1.1.1, c_misHour hm.1.1 ⟨_, rfl, fun q1 => ?_, fun q1 => ⟨hm.1.1.1.1, ?_⟩⟩⟩⟩)⟩
  · have hv := hr h' sm_rf
    unfold s_gain at hv
    rw [b2i_0.mp q1, Bool.and_false] at hv
    exact hv
  · subst ep
    have hv := hr h' sm_rf
    unfold s_gain at hv
    rw [sp_in_nI (by have := ok.2.1; omega) hp, b2i_n0.mp q1, Bool.and_true, if_pos rfl] at hv
    obtain ⟨y, hy, rfl⟩ := sp_in_ix (by have := ok.1.2; omega) (b2i_n0.mp q1)
    refine c_mgainOf hm.1 hm.2 hp hy ⟨_, rfl, hm.1.1.1.1, ?_⟩
    rw [hm.2.2.1]
    exact c_part (by have := gn_bd ok (nI p) (nI y); unfold s_gn at this; omega) (t_pos ok) ⟨_, rfl, hv⟩
/-! WISH -/
def s_wish (x2 : Int32) (D : rD) : Int32 := if decide (x2 = -1) || sp_in x2 (dP D) then sp_bh (dP D) (dH D) (sp_vl D) x2 else -1
theorem q9_wish {x1 x2 : Int32} (a : tc h z DD N C) (hq : ∀ h', ax_same cl_F h h' → Ret (some (.int (qv (z 0) DD x1 (-1) (s_wish x2)))) h') : mX9_wish g [.ref 0, .int x1, .int x2] h Ret := by
  have z2 := a.2.2.2.2.1 0 (by decide)
  refine eX9_wish ⟨a.1.1, q_begun a (fun q => Or.inr ⟨rfl, ?_⟩) (fun k hk ex ok h' hs xs hc => Or.inl ⟨_, rfl, hc.1.1.1, c_hasPersonOrAll hc.1 ⟨_, rfl, fun q1 => ⟨xs.1, _, xs.2.1.2.2.2.1, hc.2.1.1.1, c_bestHour (by have := ok.1.1; omega) hc.2.1 ⟨_, rfl, ?_⟩⟩, fun q1 => ?_⟩⟩)⟩
  · have := hq h sm_rf; rwa [qv_no q] at this
  · have hv := hq h' hs
    rw [qv_yes z2 hk ex] at hv
    unfold s_wish at hv
    rw [b2i_n0.mp q1] at hv
    exact hv
  · have hv := hq h' hs
    rw [qv_yes z2 hk ex] at hv
    unfold s_wish at hv
    rw [b2i_0.mp q1] at hv
    exact hv
theorem q10_wish {x1 x2 : Int32} (a : tc h z DD N C) (hq : ∀ h', ax_same md_F h h' → Ret (some (.int (qv (z 0) DD x1 (-1) (s_wish x2)))) h') : mX10_wish g [.ref 77, .int x1, .int x2] h Ret := by
  have z2 := a.2.2.2.2.1 0 (by decide)
  refine eX10_wish ⟨a.2.1.1, ?_⟩
  intro h1
  obtain ⟨a1, T1, hs1⟩ := q_code (v := 0) a.2.1 a.2.2.2.1
  refine ⟨a1.1, q_hand a1 T1 a.2.2.2.2 (fun q => ⟨_, rfl, fun _ => ?_, fun q2 => absurd rfl q2⟩) (fun k hk ex ok h' hs hm => ⟨_, rfl, fun q => absurd q (by decide), fun _ => ?_⟩)⟩
  · have := hq _ hs1; rwa [qv_no q] at this
  · have hv := hq h' (sm_tr hs1 hs)
    rw [qv_yes z2 hk ex] at hv
    unfold s_wish at hv
    have s0 := hm.1.1.1.1
    have hH1 : 1 ≤ dH (DD k) := by have := ok.1.1; omega
    refine ⟨fun e => ⟨fun ne => absurd e ne, fun _ => ⟨s0, ?_⟩⟩, fun ne => ⟨s0, c_misOne hm.1.1 ⟨_, rfl, fun q2 => ⟨fun _ => ⟨s0, ?_⟩, fun e => absurd e ne⟩, fun q2 => ?_⟩⟩⟩
    · subst e
      exact c_mchoice hH1 hm.1 ⟨_, rfl, hv⟩
    · rw [b2i_n0.mp q2, Bool.or_true, if_pos rfl] at hv
      obtain ⟨p, hp, rfl⟩ := sp_in_ix (by have := ok.2.1; omega) (b2i_n0.mp q2)
      exact c_mwishOf hH1 hm.1 hp ⟨_, rfl, hv⟩
    · rw [b2i_0.mp q2, decide_eq_false ne] at hv
      exact hv
end
end

section
section
variable {g : ax_G} {Ret : Option Value → ax_H → Prop} {h : ax_H} {z : Nat → Nat} {DD : Nat → rD} {N : Nat → Nat → Nat} {C : Nat → Nat → Nat → Nat → Int32}
theorem mo_wk {h : ax_H} {m : Nat} (a : mo_st h m) : ax_r h m 7 = some (m + 7) ∧ ax_s h (m + 7) = (11, 120) := a.2 6 _ rfl
theorem mo_er {h : ax_H} {m : Nat} (a : mo_st h m) : ax_r h m 8 = some (m + 8) ∧ ax_s h (m + 8) = (11, 152) := a.2 7 _ rfl
theorem mo_tb {h : ax_H} {m : Nat} (a : mo_st h m) : ax_r h m 9 = some (m + 9) ∧ ax_s h (m + 9) = (11, 136) := a.2 8 _ rfl
theorem mo_si {h : ax_H} {m : Nat} (a : mo_st h m) : ax_r h m 10 = some (m + 10) ∧ ax_s h (m + 10) = (11, 152) := a.2 9 _ rfl
/-- the k-th of a sort, in the reference's row -/
theorem tm_ln {s k : Nat} (T : tm_at h 77 0 z DD N C) (h1 : 1 ≤ s) (h5 : s < 5) (hk : k < z s) : ax_i h (83 + s) (lW s * k) = nI (N s k) ∧ ∀ i j, i < N s k → j < lw s → ax_i h (83 + s) (lW s * k + 1 + lw s * i + j) = C s k i j := by
  have := T.2.2 s k h1 h5 hk
  simp only [Nat.mul_zero, Nat.zero_add] at this
  exact this
theorem mi_is {s : Nat} {x : Int32} (a : mo_st h 77) (T : tm_at h 77 0 z DD N C) (K : tk z DD N C) (hs : s < 5) (hq : Ret (some (.int (b2i (sp_in x (z s))))) h) : mX10_is g [.ref 77, .int (nI s), .int x] h Ret :=
  c_mis a hs (K.1 s hs) (by have := T.1 s hs; rwa [Nat.mul_zero, Nat.zero_add] at this) hq
theorem mf_keep {k : Nat} {v : Int32} (a : mo_st h 77) (T : tm_at h 77 0 z DD N C) : mo_st (ax_pi h 77 k v) 77 ∧ tm_at (ax_pi h 77 k v) 77 0 z DD N C ∧ ax_same md_F h (ax_pi h 77 k v) := by
  have hs : ax_same md_F h (ax_pi h 77 k v) := sm_pi (Or.inl rfl)
  exact ⟨mo_st_same hs a, tm_at_same hs (fun j hj q => by unfold md_F at q; omega) T, hs⟩
theorem ai_eq {h : ax_H} {a k : Nat} {v : Int32} : ax_i (ax_pi h a k v) a k = v := by rw [ai_pi, if_pos ⟨rfl, rfl⟩]
theorem c_mhasWeek {x : Int32} (a : mo_st h 77) (T : tm_at h 77 0 z DD N C) (K : tk z DD N C) (hq : Ret (some (.int (b2i (sp_in x (z 1))))) (ax_pi h 77 36 x)) : mX10_hasWeek g [.ref 77, .int x] h Ret := by
  obtain ⟨a1, T1, -⟩ := mf_keep (k := 36) (v := x) a T
  exact eX10_hasWeek ⟨a.1, a1.1, mi_is (s := 1) a1 T1 K (by decide) ⟨_, rfl, b01, hq⟩⟩
theorem c_mhourOf {w i : Nat} (a : mo_st h 77) (T : tm_at h 77 0 z DD N C) (K : tk z DD N C) (hw : w < z 1) (e36 : ax_i h 77 36 = nI w) (hi : i < N 1 w) (hq : Ret (some (.int (C 1 w i 0))) h) : mX10_hourOf g [.ref 77, .int (nI i)] h Ret := by
  obtain ⟨e1, e2⟩ := mo_wk a
  have z2 := K.1 1 (by decide)
  have hn := (K.2.2 1 w (by decide) (by decide) hw).1
  have hn : N 1 w ≤ 14 := hn
  have ei : (15 : Int32) * nI w + 1 + nI i = nI (15 * w + 1 + i) := by rw [show (15 : Int32) = nI 15 from rfl, show (1 : Int32) = nI 1 from rfl, pk_mul, nI_add, nI_add]
  refine eX10_hourOf ⟨a.1, _, e1, a.1, by rw [e2], by rw [e36, ei, e2]; exact vp_in_nI (by omega) (by decide), ?_⟩
  rw [e36, ei, nI_clamp (by omega)]
  have := (tm_ln T (by decide) (by decide) hw).2 i 0 hi (by decide)
  rw [show lW 1 * w + 1 + lw 1 * i + 0 = 15 * w + 1 + i by show 15 * w + 1 + 1 * i + 0 = _; omega] at this
  show Ret (some (.int (ax_i h 84 (15 * w + 1 + i)))) h
  rw [this]
  exact hq
/-! DAY -/
def s_day (z : Nat → Nat) (N : Nat → Nat → Nat) (C : Nat → Nat → Nat → Nat → Int32) (x1 x2 : Int32) : Int32 := if sp_in x1 (z 1) then (if x2 = -1 then nI (N 1 x1.toNatClampNeg) else if sp_in x2 (N 1 x1.toNatClampNeg) then C 1 x1.toNatClampNeg x2.toNatClampNeg 0 else -2) else -2
theorem q9_day {x1 x2 : Int32} (a : tc h z DD N C) (hq : Ret (some (.int (s_day z N C x1 x2))) h) : mX9_day g [.ref 0, .int x1, .int x2] h Ret := by
  have z2 := a.2.2.2.2.1 1 (by decide)
  unfold s_day at hq
  refine eX9_day ⟨a.1.1, _, a.1.2.1.1, a.2.2.1.1.1, c_linesAt (s0 := 1) a.2.2.1 (by decide) (by decide) (fun q => Or.inr ⟨rfl, ?_⟩) (fun k hk ex => Or.inl ⟨_, rfl, ?_⟩)⟩
  · rw [q] at hq; exact hq
  · subst ex
    have hL := a.2.2.1.2.2.2 1 k (by decide) (by decide) hk
    rw [sp_in_nI (by omega) hk, if_pos rfl, nI_clamp (by omega)] at hq
    refine ⟨fun q1 => ⟨hL.1.1, c_lhas hL ⟨_, rfl, fun q2 => ?_, fun q2 => ⟨hL.1.1, c_lcell (by decide) (by decide) hL ⟨_, rfl, ?_⟩⟩⟩⟩, fun q1 => ⟨hL.1.1, ?_⟩⟩
    · rw [if_neg q1, b2i_0.mp q2] at hq; exact hq
    · rw [if_neg q1, b2i_n0.mp q2, if_pos rfl] at hq
      unfold sp_lc
      rw [b2i_n0.mp q2, show sp_in 0 (lw 1) = true from by decide]
      exact hq
    · rw [if_pos q1] at hq
      rw [hL.2.2.1]; exact hq
theorem q10_day {x1 x2 : Int32} (a : tc h z DD N C) (hq : ∀ h', ax_same md_F h h' → Ret (some (.int (s_day z N C x1 x2))) h') : mX10_day g [.ref 77, .int x1, .int x2] h Ret := by
  have K := a.2.2.2.2
  have z2 := K.1 1 (by decide)
  obtain ⟨a1, T1, hs1⟩ := q_code (v := 0) a.2.1 a.2.2.2.1
  refine eX10_day ⟨a.2.1.1, a1.1, c_mhasWeek a1 T1 K ⟨_, rfl, fun q => ?_, fun q => ?_⟩⟩
  · obtain ⟨a2, T2, hs2⟩ := mf_keep (k := 36) (v := x1) a1 T1
    obtain ⟨w, hw, rfl⟩ := sp_in_ix (by omega) (b2i_n0.mp q)
    have hv := hq _ (sm_tr hs1 hs2)
    unfold s_day at hv
    rw [b2i_n0.mp q, if_pos rfl, nI_clamp (by omega)] at hv
    obtain ⟨e1, e2⟩ := mo_wk a2
    have ei : (15 : Int32) * nI w = nI (15 * w) := by rw [show (15 : Int32) = nI 15 from rfl, pk_mul]
    have en : ∀ hh : ax_H, tm_at hh 77 0 z DD N C → ax_i hh (77 + 7) (15 * w) = nI (N 1 w) := fun hh T => (tm_ln T (by decide) (by decide) hw).1
    have hn : N 1 w ≤ 14 := (K.2.2 1 w (by decide) (by decide) hw).1
    refine ⟨a2.1, _, e1, by rw [e2], by rw [ei, e2]; exact vp_in_nI (by omega) (by decide), fun q1 => ?_, fun q1 => ?_⟩
    · rw [ei, nI_clamp (by omega), en _ T2]
      refine c_minN (by omega) ⟨_, rfl, fun q2 => ?_, fun q2 => ⟨a2.1, ?_⟩⟩
      · rw [if_neg q1, b2i_0.mp q2] at hv; exact hv
      · rw [if_neg q1, b2i_n0.mp q2, if_pos rfl] at hv
        obtain ⟨i, hi, rfl⟩ := sp_in_ix (by omega) (b2i_n0.mp q2)
        rw [nI_clamp (by omega)] at hv
        exact c_mhourOf a2 T2 K hw ai_eq hi ⟨_, rfl, hv⟩
    · rw [ei, nI_clamp (by omega), en _ T2]
      rw [if_pos q1] at hv; exact hv
  · obtain ⟨a2, T2, hs2⟩ := mf_keep (k := 36) (v := x1) a1 T1
    have hv := hq _ (sm_tr hs1 hs2)
    unfold s_day at hv
    rw [b2i_0.mp q] at hv
    exact hv
/-! ERRAND, TRAIN, SIGHT on the class's side -/
theorem q9_errand {x1 x2 x3 : Int32} (a : tc h z DD N C) (hq : Ret (some (.int (sp_ll z N C 2 x1 x2 x3 (-2)))) h) : mX9_errand g [.ref 0, .int x1, .int x2, .int x3] h Ret :=
  eX9_errand ⟨a.1.1, _, a.1.2.1.1, a.2.2.1.1.1, c_lineCell (s0 := 2) a.2.2.1 (by decide) (by decide) ⟨_, rfl, hq⟩⟩
theorem q9_train {x1 x2 x3 : Int32} (a : tc h z DD N C) (hq : Ret (some (.int (sp_ll z N C 3 x1 x2 x3 (-2)))) h) : mX9_train g [.ref 0, .int x1, .int x2, .int x3] h Ret :=
  eX9_train ⟨a.1.1, _, a.1.2.1.1, a.2.2.1.1.1, c_lineCell (s0 := 3) a.2.2.1 (by decide) (by decide) ⟨_, rfl, hq⟩⟩
theorem q9_sight {x1 x2 x3 : Int32} (a : tc h z DD N C) (hq : Ret (some (.int (sp_ll z N C 4 x1 x2 x3 (-1000000)))) h) : mX9_sight g [.ref 0, .int x1, .int x2, .int x3] h Ret :=
  eX9_sight ⟨a.1.1, _, a.1.2.1.1, a.2.2.1.1.1, c_lineCell (s0 := 4) a.2.2.1 (by decide) (by decide) ⟨_, rfl, hq⟩⟩
/-! and on the reference's -/
theorem c_merrandOf {r i j : Nat} (a : mo_st h 77) (T : tm_at h 77 0 z DD N C) (K : tk z DD N C) (hr : r < z 2) (e0 : ax_i h 77 41 = nI r) (hi : i < N 2 r) (hj : j < 3) (hq : Ret (some (.int (C 2 r i j))) h) : mX10_errandOf g [.ref 77, .int (nI i), .int (nI j)] h Ret := by
  obtain ⟨e1, e2⟩ := mo_er a
  have z2 := K.1 2 (by decide)
  have hn : N 2 r ≤ 6 := (K.2.2 2 r (by decide) (by decide) hr).1
  have ei : (19 : Int32) * ax_i h 77 41 + 1 + 3 * nI i + nI j = nI (19 * r + 1 + 3 * i + j) := by rw [e0, show (19 : Int32) = nI 19 from rfl, show (1 : Int32) = nI 1 from rfl, show (3 : Int32) = nI 3 from rfl, pk_mul, nI_add, pk_mul, nI_add, nI_add]
  refine eX10_errandOf ⟨a.1, _, e1, a.1, ?_⟩
  intro z3
  have ez : z3 = nI (19 * r + 1 + 3 * i + j) := ei
  refine ⟨by rw [e2], by rw [ez, e2]; exact vp_in_nI (by omega) (by decide), ?_⟩
  rw [ez, nI_clamp (by omega)]
  have := (tm_ln T (by decide) (by decide) hr).2 i j hi hj
  show Ret (some (.int (ax_i h 85 (19 * r + 1 + 3 * i + j)))) h
  rw [show ax_i h 85 (19 * r + 1 + 3 * i + j) = C 2 r i j from this]
  exact hq
theorem c_mtrainOf {r i j : Nat} (a : mo_st h 77) (T : tm_at h 77 0 z DD N C) (K : tk z DD N C) (hr : r < z 3) (e0 : ax_i h 77 47 = nI r) (hi : i < N 3 r) (hj : j < 2) (hq : Ret (some (.int (C 3 r i j))) h) : mX10_trainOf g [.ref 77, .int (nI i), .int (nI j)] h Ret := by
  obtain ⟨e1, e2⟩ := mo_tb a
  have z2 := K.1 3 (by decide)
  have hn : N 3 r ≤ 8 := (K.2.2 3 r (by decide) (by decide) hr).1
  have ei : (17 : Int32) * ax_i h 77 47 + 1 + 2 * nI i + nI j = nI (17 * r + 1 + 2 * i + j) := by rw [e0, show (17 : Int32) = nI 17 from rfl, show (1 : Int32) = nI 1 from rfl, show (2 : Int32) = nI 2 from rfl, pk_mul, nI_add, pk_mul, nI_add, nI_add]
  refine eX10_trainOf ⟨a.1, _, e1, a.1, ?_⟩
  intro z3
  have ez : z3 = nI (17 * r + 1 + 2 * i + j) := ei
  refine ⟨by rw [e2], by rw [ez, e2]; exact vp_in_nI (by omega) (by decide), ?_⟩
  rw [ez, nI_clamp (by omega)]
  have := (tm_ln T (by decide) (by decide) hr).2 i j hi hj
  show Ret (some (.int (ax_i h 86 (17 * r + 1 + 2 * i + j)))) h
  rw [show ax_i h 86 (17 * r + 1 + 2 * i + j) = C 3 r i j from this]
  exact hq
theorem c_msightOf {r i j : Nat} (a : mo_st h 77) (T : tm_at h 77 0 z DD N C) (K : tk z DD N C) (hr : r < z 4) (e0 : ax_i h 77 49 = nI r) (hi : i < N 4 r) (hj : j < 3) (hq : Ret (some (.int (C 4 r i j))) h) : mX10_sightOf g [.ref 77, .int (nI i), .int (nI j)] h Ret := by
  obtain ⟨e1, e2⟩ := mo_si a
  have z2 := K.1 4 (by decide)
  have hn : N 4 r ≤ 6 := (K.2.2 4 r (by decide) (by decide) hr).1
  have ei : (19 : Int32) * ax_i h 77 49 + 1 + 3 * nI i + nI j = nI (19 * r + 1 + 3 * i + j) := by rw [e0, show (19 : Int32) = nI 19 from rfl, show (1 : Int32) = nI 1 from rfl, show (3 : Int32) = nI 3 from rfl, pk_mul, nI_add, pk_mul, nI_add, nI_add]
  refine eX10_sightOf ⟨a.1, _, e1, a.1, ?_⟩
  intro z3
  have ez : z3 = nI (19 * r + 1 + 3 * i + j) := ei
  refine ⟨by rw [e2], by rw [ez, e2]; exact vp_in_nI (by omega) (by decide), ?_⟩
  rw [ez, nI_clamp (by omega)]
  have := (tm_ln T (by decide) (by decide) hr).2 i j hi hj
  show Ret (some (.int (ax_i h 87 (19 * r + 1 + 3 * i + j)))) h
  rw [show ax_i h 87 (19 * r + 1 + 3 * i + j) = C 4 r i j from this]
  exact hq
theorem c_mhasTable {x : Int32} (a : mo_st h 77) (T : tm_at h 77 0 z DD N C) (K : tk z DD N C) (hq : Ret (some (.int (b2i (sp_in x (z 3))))) (ax_pi h 77 47 x)) : mX10_hasTable g [.ref 77, .int x] h Ret := by
  obtain ⟨a1, T1, -⟩ := mf_keep (k := 47) (v := x) a T
  exact eX10_hasTable ⟨a.1, a1.1, mi_is (s := 3) a1 T1 K (by decide) ⟨_, rfl, b01, hq⟩⟩
theorem c_mhasSights {x : Int32} (a : mo_st h 77) (T : tm_at h 77 0 z DD N C) (K : tk z DD N C) (hq : Ret (some (.int (b2i (sp_in x (z 4))))) (ax_pi h 77 49 x)) : mX10_hasSights g [.ref 77, .int x] h Ret := by
  obtain ⟨a1, T1, -⟩ := mf_keep (k := 49) (v := x) a T
  exact eX10_hasSights ⟨a.1, a1.1, mi_is (s := 4) a1 T1 K (by decide) ⟨_, rfl, b01, hq⟩⟩
theorem c_mtrains {r : Nat} (a : mo_st h 77) (T : tm_at h 77 0 z DD N C) (K : tk z DD N C) (hr : r < z 3) (e0 : ax_i h 77 47 = nI r) (hq : Ret (some (.int (nI (N 3 r)))) h) : mX10_trains g [.ref 77] h Ret := by
  obtain ⟨e1, e2⟩ := mo_tb a
  have z2 := K.1 3 (by decide)
  have ei : (17 : Int32) * ax_i h 77 47 = nI (17 * r) := by rw [e0, show (17 : Int32) = nI 17 from rfl, pk_mul]
  refine eX10_trains ⟨a.1, _, e1, a.1, by rw [e2], by rw [ei, e2]; exact vp_in_nI (by omega) (by decide), ?_⟩
  rw [ei, nI_clamp (by omega)]
  have := (tm_ln T (by decide) (by decide) hr).1
  rw [show ax_i h (77 + 9) (17 * r) = nI (N 3 r) from this]
  exact hq
/-- the reference's way to a row of errands: the row, how many -/
theorem c_mhasErrands {x : Int32} (a : mo_st h 77) (T : tm_at h 77 0 z DD N C) (K : tk z DD N C) (hq : ∀ h', mr (fun j => j = 41 ∨ j = 42 ∨ j = 45) (fun _ => False) 77 h h' → ax_i h' 77 41 = x → ax_i h' 77 45 = 0 → ax_i h' 77 42 = (if sp_in x (z 2) then nI (N 2 x.toNatClampNeg) else 0) → Ret (some (.int (b2i (sp_in x (z 2))))) h') : mX10_hasErrands g [.ref 77, .int x] h Ret := by
  have z2 := K.1 2 (by decide)
  refine eX10_hasErrands ⟨Or.inl rfl, a.1, ?_⟩
  intro h1
  obtain ⟨a1, T1, -⟩ := mf_keep (k := 45) (v := 0) a T
  refine ⟨a1.1, ?_⟩
  intro h2
  obtain ⟨a2, T2, -⟩ := mf_keep (k := 41) (v := x) a1 T1
  have hs2 : mr (fun j => j = 41 ∨ j = 42 ∨ j = 45) (fun _ => False) 77 h h2 := mr_tr (mr_f (Or.inr (Or.inr rfl))) (mr_f (Or.inl rfl))
  have f41 : ax_i h2 77 41 = x := ai_eq
  have f45 : ax_i h2 77 45 = 0 := by
    show ax_i (ax_pi h1 77 41 x) 77 45 = _
    rw [ai_pi, if_neg (by omega)]; exact ai_eq
  refine ⟨a2.1, mi_is (s := 2) a2 T2 K (by decide) ⟨_, rfl, fun q => ⟨a2.1, ?_⟩, fun q => ?_⟩⟩
  · intro h6
    obtain ⟨a6, T6, -⟩ := mf_keep (k := 42) (v := 0) a2 T2
    refine ⟨a6.1, mi_is (s := 2) a6 T6 K (by decide) ⟨_, rfl, b01, hq h6 (mr_tr hs2 (mr_f (Or.inr (Or.inl rfl)))) ?_ ?_ ?_⟩⟩
    · show ax_i (ax_pi h2 77 42 0) 77 41 = _
      rw [ai_pi, if_neg (by omega)]; exact f41
    · show ax_i (ax_pi h2 77 42 0) 77 45 = _
      rw [ai_pi, if_neg (by omega)]; exact f45
    · rw [b2i_0.mp q]; exact ai_eq
  · obtain ⟨r, hr, er⟩ := sp_in_ix (by omega) (b2i_n0.mp q)
    obtain ⟨e1, e2⟩ := mo_er a2
    have ei : (19 : Int32) * x = nI (19 * r) := by rw [er, show (19 : Int32) = nI 19 from rfl, pk_mul]
    refine ⟨a2.1, _, e1, by rw [e2], by rw [ei, e2]; exact vp_in_nI (by omega) (by decide), a2.1, ?_⟩
    rw [ei, nI_clamp (by omega), show ax_i h2 (77 + 8) (19 * r) = nI (N 2 r) from (tm_ln T2 (by decide) (by decide) hr).1]
    intro h11
    obtain ⟨a6, T6, -⟩ := mf_keep (k := 42) (v := nI (N 2 r)) a2 T2
    refine ⟨a6.1, mi_is (s := 2) a6 T6 K (by decide) ⟨_, rfl, b01, hq h11 (mr_tr hs2 (mr_f (Or.inr (Or.inl rfl)))) ?_ ?_ ?_⟩⟩
    · show ax_i (ax_pi h2 77 42 _) 77 41 = _
      rw [ai_pi, if_neg (by omega)]; exact f41
    · show ax_i (ax_pi h2 77 42 _) 77 45 = _
      rw [ai_pi, if_neg (by omega)]; exact f45
    · rw [b2i_n0.mp q, if_pos rfl, er, nI_clamp (by omega)]; exact ai_eq
end
end

section
section
/-! new cells -/
theorem sz_nw {h : ax_H} {kd ln : Nat} : (ax_nw h kd ln).1 = h.1 + 1 := rfl
theorem sz_pi {h : ax_H} {a k : Nat} {v : Int32} : (ax_pi h a k v).1 = h.1 := rfl
theorem sz_pl {h : ax_H} {a k : Nat} {v : Int64} : (ax_pl h a k v).1 = h.1 := rfl
theorem sz_pr {h : ax_H} {a k : Nat} {v : Option Nat} : (ax_pr h a k v).1 = h.1 := rfl
theorem sz_row {h : ax_H} {a : Nat} {f : Nat → Int32} : (ax_row h a f).1 = h.1 := rfl
theorem as_nw {h : ax_H} {kd ln b : Nat} : ax_s (ax_nw h kd ln) b = if b = h.1 then (kd, ln) else ax_s h b := by
  unfold ax_s ax_nw
  dsimp only
  by_cases e : b = h.1
  · rw [if_pos e, if_pos (by omega), if_pos e]
  · rw [if_neg e]
    by_cases e2 : b < h.1
    · rw [if_pos (by omega), if_pos e2, if_neg e]
    · rw [if_neg (by omega), if_neg e2, if_neg e]
theorem ai_nw {h : ax_H} {kd ln b k : Nat} : ax_i (ax_nw h kd ln) b k = if b = h.1 then 0 else ax_i h b k := by
  show (if b = h.1 then (fun _ => (0 : Int32)) else h.2.2.1 b) k = _
  by_cases e : b = h.1
  · rw [if_pos e, if_pos e]
  · rw [if_neg e, if_neg e]; rfl
theorem al_nw {h : ax_H} {kd ln b k : Nat} : ax_l (ax_nw h kd ln) b k = if b = h.1 then 0 else ax_l h b k := by
  show (if b = h.1 then (fun _ => (0 : Int64)) else h.2.2.2.1 b) k = _
  by_cases e : b = h.1
  · rw [if_pos e, if_pos e]
  · rw [if_neg e, if_neg e]; rfl
theorem ar_nw {h : ax_H} {kd ln b k : Nat} : ax_r (ax_nw h kd ln) b k = if b = h.1 then none else ax_r h b k := by
  show (if b = h.1 then (fun _ => (none : Option Nat)) else h.2.2.2.2 b) k = _
  by_cases e : b = h.1
  · rw [if_pos e, if_pos e]
  · rw [if_neg e, if_neg e]; rfl
theorem ai_ne {h : ax_H} {a k b j : Nat} {v : Int32} (e : b ≠ a ∨ j ≠ k) : ax_i (ax_pi h a k v) b j = ax_i h b j := by
  rw [ai_pi, if_neg (fun q => e.elim (fun z => z q.1) (fun z => z q.2))]
/-- the cells of P are as they were -/
def ag (P : Nat → Prop) (h h' : ax_H) : Prop := ∀ b, P b → ax_s h' b = ax_s h b ∧ (∀ k, ax_i h' b k = ax_i h b k) ∧ (∀ k, ax_l h' b k = ax_l h b k) ∧ ∀ k, ax_r h' b k = ax_r h b k
theorem ag_rf {P : Nat → Prop} {h : ax_H} : ag P h h := fun _ _ => ⟨rfl, fun _ => rfl, fun _ => rfl, fun _ => rfl⟩
theorem ag_tr {P : Nat → Prop} {h h1 h2 : ax_H} (a : ag P h h1) (b : ag P h1 h2) : ag P h h2 := fun x hx => ⟨(b x hx).1.trans (a x hx).1, fun k => ((b x hx).2.1 k).trans ((a x hx).2.1 k), fun k => ((b x hx).2.2.1 k).trans ((a x hx).2.2.1 k), fun k => ((b x hx).2.2.2 k).trans ((a x hx).2.2.2 k)⟩
theorem ag_mono {P Q : Nat → Prop} {h h1 : ax_H} (a : ag P h h1) (i : ∀ x, Q x → P x) : ag Q h h1 := fun x hx => a x (i x hx)
theorem ag_nw {P : Nat → Prop} {h : ax_H} {kd ln : Nat} (i : ¬ P h.1) : ag P h (ax_nw h kd ln) := fun x hx => by
  have e : x ≠ h.1 := fun q => i (q ▸ hx)
  exact ⟨by rw [as_nw, if_neg e], fun k => by rw [ai_nw, if_neg e], fun k => by rw [al_nw, if_neg e], fun k => by rw [ar_nw, if_neg e]⟩
theorem ag_pi {P : Nat → Prop} {h : ax_H} {a k : Nat} {v : Int32} (i : ¬ P a) : ag P h (ax_pi h a k v) := fun x hx => ⟨rfl, fun j => ai_ne (Or.inl (fun q => i (q ▸ hx))), fun _ => rfl, fun _ => rfl⟩
theorem ag_pl {P : Nat → Prop} {h : ax_H} {a k : Nat} {v : Int64} (i : ¬ P a) : ag P h (ax_pl h a k v) := fun x hx => ⟨rfl, fun _ => rfl, fun j => by rw [al_pl, if_neg (fun (q : x = a ∧ j = k) => i (q.1 ▸ hx))], fun _ => rfl⟩
theorem ag_pr {P : Nat → Prop} {h : ax_H} {a k : Nat} {v : Option Nat} (i : ¬ P a) : ag P h (ax_pr h a k v) := fun x hx => ⟨rfl, fun _ => rfl, fun _ => rfl, fun j => by rw [ar_pr, if_neg (fun (q : x = a ∧ j = k) => i (q.1 ▸ hx))]⟩
theorem ag_row {P : Nat → Prop} {h : ax_H} {a : Nat} {f : Nat → Int32} (i : ¬ P a) : ag P h (ax_row h a f) := fun x hx => ⟨rfl, fun j => by rw [ai_row, if_neg (fun (q : x = a) => i (q ▸ hx))], fun _ => rfl, fun _ => rfl⟩
theorem ag_same {P F : Nat → Prop} {h h' : ax_H} (s : ax_same F h h') (i : ∀ x, P x → ¬ F x) : ag P h h' := fun x hx => ⟨s.2.1 x, (s.2.2.2 x (i x hx)).1, (s.2.2.2 x (i x hx)).2, s.2.2.1 x⟩
theorem rc_st_ag {P : Nat → Prop} {h h' : ax_H} {r : Nat} (s : ag P h h') (i : ∀ j, j < 6 → P (r + j)) (a : rc_st h r) : rc_st h' r := by
  obtain ⟨a1, ⟨b1, b2, b3, b4, b5⟩, c1, c2, c3, c4, c5⟩ := a
  have e0 := s _ (i 0 (by decide))
  rw [Nat.add_zero] at e0
  exact ⟨by rw [e0.1]; exact a1, ⟨by rw [e0.2.2.2]; exact b1, by rw [e0.2.2.2]; exact b2, by rw [e0.2.2.2]; exact b3, by rw [e0.2.2.2]; exact b4, by rw [e0.2.2.2]; exact b5⟩, by rw [(s _ (i 1 (by decide))).1]; exact c1, by rw [(s _ (i 2 (by decide))).1]; exact c2, by rw [(s _ (i 3 (by decide))).1]; exact c3, by rw [(s _ (i 4 (by decide))).1]; exact c4, by rw [(s _ (i 5 (by decide))).1]; exact c5⟩
theorem rc_at_ag {P : Nat → Prop} {h h' : ax_H} {r : Nat} {D : rD} (s : ag P h h') (i : ∀ j, j < 6 → P (r + j)) (a : rc_at h r D) : rc_at h' r D := by
  obtain ⟨a1, a2, a3, a4, a5, a6, a7, a8⟩ := a
  have e : ∀ j, j < 6 → ∀ k, ax_i h' (r + j) k = ax_i h (r + j) k := fun j hj => (s _ (i j hj)).2.1
  have e0 : ∀ k, ax_i h' r k = ax_i h r k := e 0 (by decide)
  exact ⟨rc_st_ag s i a1, a2, ⟨by rw [e0]; exact a3.1, by rw [e0]; exact a3.2⟩, fun k hk => by rw [e 1 (by decide)]; exact a4 k hk, fun k hk => by rw [e 2 (by decide)]; exact a5 k hk, fun k hk => by rw [e 3 (by decide)]; exact a6 k hk, fun p q hp hq => by rw [e 4 (by decide)]; exact a7 p q hp hq, fun p q hp hq => by rw [e 5 (by decide)]; exact a8 p q hp hq⟩
theorem li_st_ag {P : Nat → Prop} {h h' : ax_H} {l s : Nat} (g : ag P h h') (i : P l ∧ P (l + 1)) (a : li_st h l s) : li_st h' l s := by
  obtain ⟨a1, a2, a3, a4, a5⟩ := a
  have e0 := g _ i.1
  exact ⟨by rw [e0.1]; exact a1, by rw [e0.2.2.2]; exact a2, by rw [e0.2.1]; exact a3, by rw [e0.2.1]; exact a4, by rw [(g _ i.2).1]; exact a5⟩
theorem li_at_ag {P : Nat → Prop} {h h' : ax_H} {l s n : Nat} {C : Nat → Nat → Int32} (g : ag P h h') (i : P l ∧ P (l + 1)) (a : li_at h l s n C) : li_at h' l s n C := ⟨li_st_ag g i a.1, a.2.1, by rw [(g _ i.1).2.1]; exact a.2.2.1, fun x j hx hj => by rw [(g _ i.2).2.1]; exact a.2.2.2 x j hx hj⟩
theorem od_st_ag {P : Nat → Prop} {h h' : ax_H} {o : Nat} (g : ag P h h') (i : P o ∧ P (o + 1)) (a : od_st h o) : od_st h' o := ⟨by rw [(g _ i.1).1]; exact a.1, by rw [(g _ i.1).2.2.2]; exact a.2.1, by rw [(g _ i.2).1]; exact a.2.2⟩
theorem co_st_ag {P : Nat → Prop} {h h' : ax_H} {c : Nat} (g : ag P h h') (i : P c ∧ P (c + 1) ∧ P (c + 2)) (a : co_st h c) : co_st h' c := ⟨by rw [(g _ i.1).1]; exact a.1, by rw [(g _ i.1).2.2.2]; exact a.2.1, by rw [(g _ i.1).2.2.2]; exact a.2.2.1, by rw [(g _ i.2.1).1]; exact a.2.2.2.1, by rw [(g _ i.2.2).1]; exact a.2.2.2.2⟩
/-! a republic cleared -/
def rc_F (r : Nat) : Nat → Prop := fun a => r ≤ a ∧ a ≤ r + 5
def rc_clr (h : ax_H) (r : Nat) : Prop := ax_i h r 5 = 8 ∧ ax_i h r 6 = 0 ∧ (∀ k, k < 6 → ax_i h (r + 1) k = 0 ∧ ax_i h (r + 2) k = 0) ∧ ∀ k, k < 72 → ax_i h (r + 4) k = -1 ∧ ax_i h (r + 5) k = 1
variable {g : ax_G} {Ret : Option Value → ax_H → Prop} {h : ax_H} {r : Nat}
theorem c_clear (a : rc_st h r) (hq : ∀ h', ax_same (rc_F r) h h' → (∀ k, ax_i h' (r + 3) k = ax_i h (r + 3) k) → rc_clr h' r → Ret none h') : mX6_clear g [.ref r] h Ret := by
  have hF : ∀ j, j < 6 → rc_F r (r + j) := fun j hj => by unfold rc_F; omega
  refine uX6_clear (fun A hA => vX6_clear_0 hA ⟨a.1, a.1, ?_⟩)
  have loop2 : ∀ n i : Nat, ∀ hh : ax_H, i + n = 72 → ax_same (rc_F r) h hh → (∀ k, ax_i hh (r + 3) k = ax_i h (r + 3) k) → ax_i hh r 5 = 8 → ax_i hh r 6 = 0 → (∀ k, k < 6 → ax_i hh (r + 1) k = 0 ∧ ax_i hh (r + 2) k = 0) → (∀ k, k < i → ax_i hh (r + 4) k = -1 ∧ ax_i hh (r + 5) k = 1) → A (41, [some (.ref r), some (.int (nI i))], [], hh, 0, 0) := by
    intro n
    induction n with
    | zero =>
      intro i hh hi hs h3 e5 e6 e1 e2
      refine vX6_clear_41 hA ⟨fun _ => hq hh hs h3 ⟨e5, e6, e1, fun k hk => e2 k (by omega)⟩, fun q => absurd (nI_le (a := 72) (b := i) (by omega) (by omega)) q⟩
    | succ n ih =>
      intro i hh hi hs h3 e5 e6 e1 e2
      obtain ⟨a1, ⟨-, -, -, r3, r4⟩, -, -, -, s4, s5⟩ := rc_st_same hs a
      refine vX6_clear_41 hA ⟨fun q => absurd q (nI_ge (a := i) (b := 72) (by omega) (by decide)), fun _ => ⟨a1, _, r3, by rw [s4], by rw [s4]; exact vp_in_nI (by omega) (by decide), a1, _, r4, ?_, ?_, ?_⟩⟩
      · rw [as_pi, s5]
      · rw [as_pi, s5]; exact vp_in_nI (by omega) (by decide)
      · show A (41, [some (.ref r), some (.int (nI i + 1))], [], ax_pi (ax_pi hh (r + 4) (nI i).toNatClampNeg (-1)) (r + 5) (nI i).toNatClampNeg 1, 0, 0)
        rw [← nI_succ, nI_clamp (by omega)]
        refine ih (i + 1) _ (by omega) (sm_tr hs (sm_tr (sm_pi (hF 4 (by decide))) (sm_pi (hF 5 (by decide))))) (fun k => ?_) ?_ ?_ (fun k hk => ⟨?_, ?_⟩) (fun k hk => ?_)
        · rw [ai_ne (by omega), ai_ne (by omega)]; exact h3 k
        · rw [ai_ne (by omega), ai_ne (by omega)]; exact e5
        · rw [ai_ne (by omega), ai_ne (by omega)]; exact e6
        · rw [ai_ne (by omega), ai_ne (by omega)]; exact (e1 k hk).1
        · rw [ai_ne (by omega), ai_ne (by omega)]; exact (e1 k hk).2
        · by_cases e : k = i
          · subst e
            rw [ai_ne (by omega), ai_eq, ai_eq]; exact ⟨rfl, rfl⟩
          · rw [ai_ne (by omega), ai_ne (by omega), ai_ne (by omega), ai_ne (by omega)]; exact e2 k (by omega)
  have loop1 : ∀ n i : Nat, ∀ hh : ax_H, i + n = 6 → ax_same (rc_F r) h hh → (∀ k, ax_i hh (r + 3) k = ax_i h (r + 3) k) → ax_i hh r 5 = 8 → ax_i hh r 6 = 0 → (∀ k, k < i → ax_i hh (r + 1) k = 0 ∧ ax_i hh (r + 2) k = 0) → A (13, [some (.ref r), some (.int (nI i))], [], hh, 0, 0) := by
    intro n
    induction n with
    | zero =>
      intro i hh hi hs h3 e5 e6 e1
      refine vX6_clear_13 hA ⟨fun _ => loop2 72 0 hh (by omega) hs h3 e5 e6 (fun k hk => e1 k (by omega)) (fun k hk => absurd hk (Nat.not_lt_zero k)), fun q => absurd (nI_le (a := 6) (b := i) (by omega) (by omega)) q⟩
    | succ n ih =>
      intro i hh hi hs h3 e5 e6 e1
      obtain ⟨a1, ⟨r3, r4, -, -, -⟩, s4, s5, -, -, -⟩ := rc_st_same hs a
      refine vX6_clear_13 hA ⟨fun q => absurd q (nI_ge (a := i) (b := 6) (by omega) (by decide)), fun _ => ⟨a1, _, r3, by rw [s4], by rw [s4]; exact vp_in_nI (by omega) (by decide), a1, _, r4, ?_, ?_, ?_⟩⟩
      · rw [as_pi, s5]
      · rw [as_pi, s5]; exact vp_in_nI (by omega) (by decide)
      · show A (13, [some (.ref r), some (.int (nI i + 1))], [], ax_pi (ax_pi hh (r + 1) (nI i).toNatClampNeg 0) (r + 2) (nI i).toNatClampNeg 0, 0, 0)
        rw [← nI_succ, nI_clamp (by omega)]
        refine ih (i + 1) _ (by omega) (sm_tr hs (sm_tr (sm_pi (hF 1 (by decide))) (sm_pi (hF 2 (by decide))))) (fun k => ?_) ?_ ?_ (fun k hk => ?_)
        · rw [ai_ne (by omega), ai_ne (by omega)]; exact h3 k
        · rw [ai_ne (by omega), ai_ne (by omega)]; exact e5
        · rw [ai_ne (by omega), ai_ne (by omega)]; exact e6
        · by_cases e : k = i
          · subst e
            rw [ai_ne (by omega), ai_eq, ai_eq]; exact ⟨rfl, rfl⟩
          · rw [ai_ne (by omega), ai_ne (by omega), ai_ne (by omega), ai_ne (by omega)]; exact e1 k (by omega)
  show A (13, [some (.ref r), some (.int (nI 0))], [], ax_pi (ax_pi h r 5 8) r 6 0, 0, 0)
  refine loop1 6 0 _ (by omega) (sm_tr (sm_pi (hF 0 (by decide))) (sm_pi (hF 0 (by decide)))) (fun k => ?_) ?_ ?_ (fun k hk => absurd hk (Nat.not_lt_zero k))
  · rw [ai_ne (by omega), ai_ne (by omega)]
  · rw [ai_ne (by omega), ai_eq]
  · rw [ai_eq]
/-! constructors: the new object is the last cell -/
theorem c_init6 (hn : h.1 = r + 1) (ha : r < 900000) (hs : (ax_s h r).1 = 6) (hq : ∀ h', ag (fun b => b < r) h h' → h'.1 = r + 6 → rc_st h' r → rc_clr h' r → (ax_s h' r).1 = 6 → Ret none h') : mX6_init g [.ref r] h Ret := by
  have kp : ∀ (hh : ax_H) (kd ln : Nat), r < hh.1 → (ax_s hh r).1 = 6 → (ax_s (ax_nw hh kd ln) r).1 = 6 := fun hh kd ln hl hk => by rw [as_nw, if_neg (by omega)]; exact hk
  have k1 := kp h 11 6 (by show r < h.1; omega) hs
  have k2 := kp (ax_pr (ax_nw h 11 6) r 0 (some (h.1))) 11 6 (by show r < h.1 + 1; omega) k1
  have k3 := kp (ax_pr (ax_nw (ax_pr (ax_nw h 11 6) r 0 (some (h.1))) 11 6) r 1 (some (h.1 + 1))) 11 6 (by show r < h.1 + 1 + 1; omega) k2
  have k4 := kp (ax_pr (ax_nw (ax_pr (ax_nw (ax_pr (ax_nw h 11 6) r 0 (some (h.1))) 11 6) r 1 (some (h.1 + 1))) 11 6) r 2 (some (h.1 + 1 + 1))) 11 72 (by show r < h.1 + 1 + 1 + 1; omega) k3
  have k5 := kp (ax_pr (ax_nw (ax_pr (ax_nw (ax_pr (ax_nw (ax_pr (ax_nw h 11 6) r 0 (some (h.1))) 11 6) r 1 (some (h.1 + 1))) 11 6) r 2 (some (h.1 + 1 + 1))) 11 72) r 3 (some (h.1 + 1 + 1 + 1))) 11 72 (by show r < h.1 + 1 + 1 + 1 + 1; omega) k4
  have hst : rc_st (ax_pr (ax_nw (ax_pr (ax_nw (ax_pr (ax_nw (ax_pr (ax_nw (ax_pr (ax_nw h 11 6) r 0 (some (h.1))) 11 6) r 1 (some (h.1 + 1))) 11 6) r 2 (some (h.1 + 1 + 1))) 11 72) r 3 (some (h.1 + 1 + 1 + 1))) 11 72) r 4 (some (h.1 + 1 + 1 + 1 + 1))) r := by
    refine ⟨k5, ⟨?_, ?_, ?_, ?_, ?_⟩, ?_, ?_, ?_, ?_, ?_⟩
    all_goals (simp [as_nw, ar_nw, ai_nw, as_pr, ar_pr, ai_pr, as_pi, ar_pi, ai_pi, as_pl, ar_pl, sz_nw, sz_pr, sz_pi, sz_pl, hn] <;> omega)
  have hag : ag (fun b => b < r) h (ax_pr (ax_nw (ax_pr (ax_nw (ax_pr (ax_nw (ax_pr (ax_nw (ax_pr (ax_nw h 11 6) r 0 (some (h.1))) 11 6) r 1 (some (h.1 + 1))) 11 6) r 2 (some (h.1 + 1 + 1))) 11 72) r 3 (some (h.1 + 1 + 1 + 1))) 11 72) r 4 (some (h.1 + 1 + 1 + 1 + 1))) := (ag_tr (ag_tr (ag_tr (ag_tr (ag_tr (ag_tr (ag_tr (ag_tr (ag_tr (ag_nw (by simp only [sz_nw, sz_pr, sz_pi, sz_pl, hn]; omega)) (ag_pr (by omega))) (ag_nw (by simp only [sz_nw, sz_pr, sz_pi, sz_pl, hn]; omega))) (ag_pr (by omega))) (ag_nw (by simp only [sz_nw, sz_pr, sz_pi, sz_pl, hn]; omega))) (ag_pr (by omega))) (ag_nw (by simp only [sz_nw, sz_pr, sz_pi, sz_pl, hn]; omega))) (ag_pr (by omega))) (ag_nw (by simp only [sz_nw, sz_pr, sz_pi, sz_pl, hn]; omega))) (ag_pr (by omega)))
  refine eX6_init ⟨by decide, by decide, ⟨by show h.1 + 1 < 1000000; omega, by decide, by decide, by decide⟩, k1, by decide, ⟨by show h.1 + 1 + 1 < 1000000; omega, by decide, by decide, by decide⟩, k2, by decide, ⟨by show h.1 + 1 + 1 + 1 < 1000000; omega, by decide, by decide, by decide⟩, k3, by decide, ⟨by show h.1 + 1 + 1 + 1 + 1 < 1000000; omega, by decide, by decide, by decide⟩, k4, by decide, ⟨by show h.1 + 1 + 1 + 1 + 1 + 1 < 1000000; omega, by decide, by decide, by decide⟩, k5, ⟨by decide, by decide, by decide⟩, k5, ?_⟩
  refine c_clear hst (fun h' hs' _ hc => ⟨rfl, ⟨by decide, by decide⟩, hq h' (ag_tr hag (ag_same hs' (fun x hx => by unfold rc_F; omega))) (hs'.1.trans (by show h.1 + 1 + 1 + 1 + 1 + 1 = _; omega)) (rc_st_same hs' hst) hc (rc_st_same hs' hst).1⟩)
theorem c_init2 {s : Nat} (hn : h.1 = r + 1) (ha : r < 900000) (hs : (ax_s h r).1 = 2) (h1s : 1 ≤ s) (h5s : s < 5) (hq : ∀ h', ag (fun b => b < r) h h' → h'.1 = r + 2 → li_st h' r s → ax_i h' r 3 = 0 → Ret none h') : mX2_init g [.ref r, .int (nI s)] h Ret := by
  have fin : ∀ (k w : Nat) (kk ww : Int32), kk = nI k → ww = nI w → k * w ≤ 18 → lm s = k → lw s = w → Ret none (ax_pr (ax_nw (ax_pi (ax_pi (ax_pi h r 3 0) r 0 kk) r 1 ww) 11 (k * w)) r 2 (some (r + 1))) := by
    intro k w kk ww ek ew hk el el2
    subst ek
    subst ew
    refine hq _ ?_ ?_ ⟨?_, ?_, ?_, ?_, ?_⟩ ?_
    · exact ag_tr (ag_tr (ag_tr (ag_tr (ag_pi (by omega)) (ag_pi (by omega))) (ag_pi (by omega))) (ag_nw (by simp only [sz_pi, hn]; omega))) (ag_pr (by omega))
    · simp only [sz_pr, sz_nw, sz_pi, hn]
    · simp [as_pr, as_nw, sz_pi, hn, as_pi, hs]
    · simp [ar_pr]
    · simp [ai_pr, ai_nw, sz_pi, hn, ai_pi, el]
    · simp [ai_pr, ai_nw, sz_pi, hn, ai_pi, el2]
    · simp [as_pr, as_nw, sz_pi, hn, el, el2]
    · simp [ai_pr, ai_nw, sz_pi, hn, ai_pi]
  refine eX2_init ⟨by decide, hs, fun q => absurd q (nI_pos (by omega)), fun _ => ⟨fun q => absurd q (nI_ge (a := s) (b := 5) h5s (by decide)), fun _ => ⟨fun q => absurd q (by decide), fun _ => ⟨rfl, vp_in_nI (N := 5) h5s (by decide), hs, fun q => absurd q (by decide), fun _ => ⟨rfl, vp_in_nI (N := 5) h5s (by decide), hs, hs, hs, ?_⟩⟩⟩⟩⟩
  have e0 : ∀ x y : Int32, ax_i (ax_pi (ax_pi (ax_pi h r 3 0) r 0 x) r 1 y) r 0 = x := fun x y => by rw [ai_ne (by omega), ai_eq]
  have e1 : ∀ x y : Int32, ax_i (ax_pi (ax_pi (ax_pi h r 3 0) r 0 x) r 1 y) r 1 = y := fun x y => ai_eq
  simp only [e0, e1]
  match s, h1s, h5s with
  | 1, _, _ => exact ⟨by decide, ⟨by simp only [sz_pi, hn]; omega, by decide, by decide, by decide⟩, by simpa [as_nw, as_pi, sz_pi, hn] using hs, ⟨by decide, by decide⟩, by have := fin 14 1 14 1 rfl rfl (by decide) rfl rfl; rw [← hn] at this; exact this⟩
  | 2, _, _ => exact ⟨by decide, ⟨by simp only [sz_pi, hn]; omega, by decide, by decide, by decide⟩, by simpa [as_nw, as_pi, sz_pi, hn] using hs, ⟨by decide, by decide⟩, by have := fin 6 3 6 3 rfl rfl (by decide) rfl rfl; rw [← hn] at this; exact this⟩
  | 3, _, _ => exact ⟨by decide, ⟨by simp only [sz_pi, hn]; omega, by decide, by decide, by decide⟩, by simpa [as_nw, as_pi, sz_pi, hn] using hs, ⟨by decide, by decide⟩, by have := fin 8 2 8 2 rfl rfl (by decide) rfl rfl; rw [← hn] at this; exact this⟩
  | 4, _, _ => exact ⟨by decide, ⟨by simp only [sz_pi, hn]; omega, by decide, by decide, by decide⟩, by simpa [as_nw, as_pi, sz_pi, hn] using hs, ⟨by decide, by decide⟩, by have := fin 6 3 6 3 rfl rfl (by decide) rfl rfl; rw [← hn] at this; exact this⟩
theorem c_init3 (hn : h.1 = r + 1) (ha : r < 900000) (hs : (ax_s h r).1 = 3) (hq : ∀ h', ag (fun b => b < r) h h' → h'.1 = r + 2 → od_st h' r → Ret none h') : mX3_init g [.ref r] h Ret := by
  refine eX3_init ⟨by decide, by decide, ⟨by omega, by decide, by decide, by decide⟩, ?_⟩
  have s0 : (ax_s (ax_nw h 11 12) r).1 = 3 := by rw [as_nw, if_neg (by omega)]; exact hs
  refine ⟨s0, s0, s0, ⟨by decide, by decide⟩, hq _ ?_ ?_ ⟨s0, ?_, ?_⟩⟩
  · exact ag_tr (ag_tr (ag_tr (ag_nw (by omega)) (ag_pr (by omega))) (ag_pi (by omega))) (ag_pi (by omega))
  · show h.1 + 1 = r + 2; omega
  · (simp [ar_pr, ar_pi, hn] <;> omega)
  · (simp [as_nw, as_pr, as_pi, hn] <;> omega)
theorem c_init0 (hn : h.1 = r + 1) (ha : r < 900000) (hs : (ax_s h r).1 = 0) (hq : ∀ h', ag (fun b => b < r) h h' → h'.1 = r + 3 → co_st h' r → Ret none h') : mX0_init g [.ref r] h Ret := by
  refine eX0_init ⟨by decide, by decide, ⟨by omega, by decide, by decide, by decide⟩, ?_⟩
  have s0 : (ax_s (ax_nw h 11 6) r).1 = 0 := by rw [as_nw, if_neg (by omega)]; exact hs
  have s1 : (ax_s (ax_nw (ax_pr (ax_nw h 11 6) r 0 (some h.1)) 11 72) r).1 = 0 := by rw [as_nw, if_neg (by simp only [sz_pr, sz_nw]; omega)]; exact s0
  refine ⟨s0, by decide, ⟨by simp only [sz_pr, sz_nw, hn]; omega, by decide, by decide, by decide⟩, s1, s1, s1, ⟨by decide, by decide⟩, hq _ ?_ ?_ ⟨s1, ?_, ?_, ?_, ?_⟩⟩
  · exact ag_tr (ag_tr (ag_tr (ag_tr (ag_tr (ag_nw (by omega)) (ag_pr (by omega))) (ag_nw (by simp only [sz_pr, sz_nw]; omega))) (ag_pr (by omega))) (ag_pi (by omega))) (ag_pi (by omega))
  · show h.1 + 1 + 1 = r + 3; omega
  · (simp [ar_pr, ar_pi, ar_nw, sz_pr, sz_nw, hn] <;> omega)
  · (simp [ar_pr, ar_pi, ar_nw, sz_pr, sz_nw, hn] <;> omega)
  · (simp [as_nw, as_pr, as_pi, sz_pr, sz_nw, hn] <;> omega)
  · (simp [as_nw, as_pr, as_pi, sz_pr, sz_nw, hn] <;> omega)
end
end

section
section
variable {g : ax_G} {Ret : Option Value → ax_H → Prop} {h : ax_H} {r : Nat}
theorem c_init1 (hs : (ax_s h r).1 = 1) (hq : ∀ h', ag (fun b => b ≠ r) h h' → h'.1 = h.1 → (ax_s h' r).1 = 1 → Ret none h') : mX1_init g [.ref r] h Ret :=
  eX1_init ⟨by decide, hs, hs, hq _ (ag_tr (ag_pl (fun q => q rfl)) (ag_pl (fun q => q rfl))) rfl hs⟩
/-! what is told, new -/
def tz (h : ax_H) (t : Nat) : Prop := ax_i h t 4 = 0 ∧ ax_i h t 5 = 0 ∧ ax_i h t 6 = -1 ∧ (∀ i, ax_i h (t + 1) i = 0) ∧ ∀ i, ax_i h (t + 2) i = 0
def ti (t kr k s : Nat) (h : ax_H) : Prop := (ax_s h t).1 = 8 ∧ (ax_r h t 0 = some (t + 1) ∧ ax_r h t 1 = some (t + 2) ∧ ax_r h t 2 = some (t + 3) ∧ ax_r h t 3 = some (t + 4)) ∧ (ax_s h (t + 1) = (12, 600) ∧ ax_s h (t + 2) = (11, 5) ∧ ax_s h (t + 3) = (17, 2) ∧ ax_s h (t + 4) = (15, 10)) ∧ (∀ j, j < kr → ax_r h (t + 3) j = some (t + 5 + 14 * j) ∧ rc_st h (t + 5 + 14 * j)) ∧ (∀ s' j, 1 ≤ s' → s' < 5 → (j < k ∨ j = k ∧ s' < s) → ax_r h (t + 4) (s' * 2 + j) = some (lnp t s' j) ∧ li_st h (lnp t s' j) s') ∧ tz h t ∧ ax_r h (t + 4) 0 = none ∧ ax_r h (t + 4) 1 = none
theorem ti_ag {P : Nat → Prop} {h h' : ax_H} {t kr k s : Nat} (e : ag P h h') (i : ∀ b, t ≤ b → b < t + 5 → P b) (ir : ∀ j, j < kr → ∀ b, b < 6 → P (t + 5 + 14 * j + b)) (il : ∀ s' j, 1 ≤ s' → s' < 5 → (j < k ∨ j = k ∧ s' < s) → P (lnp t s' j) ∧ P (lnp t s' j + 1)) (a : ti t kr k s h) : ti t kr k s h' := by
  obtain ⟨a1, ⟨b1, b2, b3, b4⟩, ⟨c1, c2, c3, c4⟩, d, f, ⟨z1, z2, z3, z4, z5⟩, n0, n1⟩ := a
  have e0 := e t (i t (by omega) (by omega))
  have e1 := e (t + 1) (i _ (by omega) (by omega))
  have e2 := e (t + 2) (i _ (by omega) (by omega))
  have e3 := e (t + 3) (i _ (by omega) (by omega))
  have e4 := e (t + 4) (i _ (by omega) (by omega))
  exact ⟨by rw [e0.1]; exact a1, ⟨by rw [e0.2.2.2]; exact b1, by rw [e0.2.2.2]; exact b2, by rw [e0.2.2.2]; exact b3, by rw [e0.2.2.2]; exact b4⟩, ⟨by rw [e1.1]; exact c1, by rw [e2.1]; exact c2, by rw [e3.1]; exact c3, by rw [e4.1]; exact c4⟩, fun j hj => ⟨by rw [e3.2.2.2]; exact (d j hj).1, rc_st_ag e (ir j hj) (d j hj).2⟩, fun s' j h1 h5 hj => ⟨by rw [e4.2.2.2]; exact (f s' j h1 h5 hj).1, li_st_ag e (il s' j h1 h5 hj) (f s' j h1 h5 hj).2⟩, ⟨by rw [e0.2.1]; exact z1, by rw [e0.2.1]; exact z2, by rw [e0.2.1]; exact z3, fun q => by rw [e1.2.1]; exact z4 q, fun q => by rw [e2.2.1]; exact z5 q⟩, by rw [e4.2.2.2]; exact n0, by rw [e4.2.2.2]; exact n1⟩
theorem c_init8 {t : Nat} (hn : h.1 = t + 1) (ha : t < 800000) (hs : (ax_s h t).1 = 8) (hq : ∀ h', ag (fun b => b < t) h h' → h'.1 = t + 33 → to_st h' t → tz h' t → ax_r h' (t + 4) 0 = none → ax_r h' (t + 4) 1 = none → Ret none h') : mX8_init g [.ref t] h Ret := by
  refine uX8_init (fun A hA => vX8_init_0 hA ?_)
  -- the loop over sorts
  have inner : ∀ (B : Nat → ax_H → Nat → Nat → Prop) (k : Nat), k < 2 → (∀ (hh : ax_H) (u1 u2 : Nat) (o : Option Value), ag (fun b => b < t) h hh → hh.1 = t + 5 + 14 * (k + 1) → ti t (k + 1) (k + 1) 1 hh → u1 = 4 + 14 * (k + 1) → u2 = 617 + 257 * (k + 1) → A (54, [some (.ref t), some (.int (nI k + 1)), o], [], hh, u1, u2)) → ∀ n s : Nat, s + n = 5 → 1 ≤ s → ∀ (hh : ax_H) (u1 u2 : Nat), ag (fun b => b < t) h hh → hh.1 = t + 9 + 14 * k + 2 * s → ti t (k + 1) k s hh → u1 = 8 + 14 * k + 2 * s → u2 = 764 + 257 * k + 22 * s → A (74, [some (.ref t), some (.int (nI k)), some (.int (nI s))], [], hh, u1, u2) := by
    intro _ k hk2 out n
    induction n with
    | zero =>
      intro s hsn hs1 hh u1 u2 hg hz hti e1 e2
      refine vX8_init_74 hA ⟨fun _ => out hh u1 u2 _ hg (by omega) ?_ (by omega) (by omega), fun q => absurd (nI_le (a := 5) (b := s) (by omega) (by omega)) q⟩
      obtain ⟨a1, b, c, d, f, z⟩ := hti
      exact ⟨a1, b, c, d, fun s' j h1 h5 hj => f s' j h1 h5 (by omega), z⟩
    | succ n ih =>
      intro s hsn hs1 hh u1 u2 hg hz hti e1 e2
      obtain ⟨a1, b, c, d, f, z⟩ := id hti
      have ei : nI s * 2 + nI k = nI (s * 2 + k) := by rw [show (2 : Int32) = nI 2 from rfl, pk_mul, nI_add]
      refine vX8_init_74 hA ⟨fun q => absurd q (nI_ge (a := s) (b := 5) (by omega) (by decide)), fun _ => ⟨a1, _, b.2.2.2, ⟨by omega, by omega, by omega⟩, rfl, ⟨by simp [Value.category], by omega, by omega⟩, by rw [as_nw, if_pos rfl], ?_⟩⟩
      have hnw : (ax_nw hh 2 0).1 = hh.1 + 1 := rfl
      refine c_init2 (r := hh.1) (s := s) hnw (by omega) (by rw [as_nw, if_pos rfl]) hs1 (by omega) (fun h' hg' hz' hl' _ => ?_)
      have hg2 : ag (fun b => b < hh.1) hh h' := ag_tr (ag_nw (by omega)) hg'
      have hti' : ti t (k + 1) k s h' := ti_ag hg2 (fun b _ _ => by omega) (fun j hj b hb => by omega) (fun s' j h1 h5 hj => by unfold lnp; omega) hti
      obtain ⟨a1', b', c', d', f', z', n0, n1⟩ := id hti'
      refine ⟨rfl, by rw [c'.2.2.2], hl'.1, by rw [c'.2.2.2, ei]; exact vp_in_nI (by omega) (by decide), ?_⟩
      show A (74, [some (.ref t), some (.int (nI k)), some (.int (nI s + 1))], [], ax_pr h' (t + 4) (nI s * 2 + nI k).toNatClampNeg (some hh.1), u1 + 1 + 1, u2 + 4 + 18)
      rw [← nI_succ, ei, nI_clamp (by omega)]
      have hp : ag (fun b => b ≠ t + 4) h' (ax_pr h' (t + 4) (s * 2 + k) (some hh.1)) := ag_pr (fun q => q rfl)
      refine ih (s + 1) (by omega) (by omega) _ _ _ (ag_tr hg (ag_tr (ag_mono hg2 (fun x hx => by omega)) (ag_mono hp (fun x hx => by omega)))) (by show h'.1 = _; omega) ?_ (by omega) (by omega)
      have e0 := hp t (by omega)
      refine ⟨by rw [e0.1]; exact a1', ⟨by rw [e0.2.2.2]; exact b'.1, by rw [e0.2.2.2]; exact b'.2.1, by rw [e0.2.2.2]; exact b'.2.2.1, by rw [e0.2.2.2]; exact b'.2.2.2⟩, c', fun j hj => ⟨by rw [ar_pr, if_neg (by omega)]; exact (d' j hj).1, rc_st_ag hp (fun q hq => by omega) (d' j hj).2⟩, fun s' j h1 h5 hj => ?_, ⟨by rw [ai_pr]; exact z'.1, by rw [ai_pr]; exact z'.2.1, by rw [ai_pr]; exact z'.2.2.1, fun q => by rw [ai_pr]; exact z'.2.2.2.1 q, fun q => by rw [ai_pr]; exact z'.2.2.2.2 q⟩, by rw [ar_pr, if_neg (by omega)]; exact n0, by rw [ar_pr, if_neg (by omega)]; exact n1⟩
      by_cases e : s' * 2 + j = s * 2 + k
      · obtain ⟨rfl, rfl⟩ : s' = s ∧ j = k := by omega
        refine ⟨by rw [ar_pr, if_pos ⟨rfl, rfl⟩, hz]; unfold lnp; congr 1, li_st_ag hp (by unfold lnp; omega) ?_⟩
        rw [show lnp t s' j = hh.1 by unfold lnp; omega]; exact hl'
      · have hj' : j < k ∨ j = k ∧ s' < s := by
          rcases hj with q | ⟨q, w⟩
          · exact Or.inl q
          · exact Or.inr ⟨q, by omega⟩
        exact ⟨by rw [ar_pr, if_neg (fun q => e q.2)]; exact (f' s' j h1 h5 hj').1, li_st_ag hp (by unfold lnp; omega) (f' s' j h1 h5 hj').2⟩
  have outer : ∀ n k : Nat, k + n = 2 → ∀ (hh : ax_H) (u1 u2 : Nat) (o : Option Value), ag (fun b => b < t) h hh → hh.1 = t + 5 + 14 * k → ti t k k 1 hh → u1 = 4 + 14 * k → u2 = 617 + 257 * k → A (54, [some (.ref t), some (.int (nI k)), o], [], hh, u1, u2) := by
    intro n
    induction n with
    | zero =>
      intro k hk hh u1 u2 o hg hz hti e1 e2
      obtain rfl : k = 2 := by omega
      obtain ⟨a1, b, c, d, f, z, n0, n1⟩ := hti
      refine vX8_init_54 hA ⟨fun _ => ⟨⟨by omega, by omega⟩, hq hh hg (by omega) ⟨a1, b, c, d, fun s k h1 h5 hk => f s k h1 h5 (Or.inl hk)⟩ z n0 n1⟩, fun q => absurd (by decide) q⟩
    | succ n ih =>
      intro k hk hh u1 u2 o hg hz hti e1 e2
      obtain ⟨a1, b, c, d, f, z, n0, n1⟩ := id hti
      refine vX8_init_54 hA ⟨fun q => absurd q (nI_ge (a := k) (b := 2) (by omega) (by decide)), fun _ => ⟨a1, _, b.2.2.1, ⟨by omega, by omega, by omega⟩, rfl, ⟨by simp [Value.category], by omega, by omega⟩, by rw [as_nw, if_pos rfl], ?_⟩⟩
      have hnw : (ax_nw hh 6 0).1 = hh.1 + 1 := rfl
      refine c_init6 (r := hh.1) hnw (by omega) (by rw [as_nw, if_pos rfl]) (fun h' hg' hz' hl' _ hk' => ?_)
      have hg2 : ag (fun b => b < hh.1) hh h' := ag_tr (ag_nw (by omega)) hg'
      have hti' : ti t k k 1 h' := ti_ag hg2 (fun b _ _ => by omega) (fun j hj b hb => by omega) (fun s' j h1 h5 hj => by unfold lnp; omega) hti
      obtain ⟨a1', b', c', d', f', z', n0', n1'⟩ := id hti'
      refine ⟨rfl, by rw [c'.2.2.1], hk', by rw [c'.2.2.1]; exact vp_in_nI (by omega) (by decide), ?_⟩
      show A (74, [some (.ref t), some (.int (nI k)), some (.int (nI 1))], [], ax_pr h' (t + 3) (nI k).toNatClampNeg (some hh.1), u1 + 1 + 5, u2 + 7 + 162)
      rw [nI_clamp (by omega)]
      have hp : ag (fun b => b ≠ t + 3) h' (ax_pr h' (t + 3) k (some hh.1)) := ag_pr (fun q => q rfl)
      refine inner (fun _ _ _ _ => True) k (by omega) (fun hh u1 u2 o hg hz hti e1 e2 => by rw [← nI_succ]; exact ih (k + 1) (by omega) hh u1 u2 o hg hz hti e1 e2) 4 1 (by omega) (by omega) _ _ _ (ag_tr hg (ag_tr (ag_mono hg2 (fun x hx => by omega)) (ag_mono hp (fun x hx => by omega)))) (by show h'.1 = _; omega) ?_ (by omega) (by omega)
      have e0 := hp t (by omega)
      refine ⟨by rw [e0.1]; exact a1', ⟨by rw [e0.2.2.2]; exact b'.1, by rw [e0.2.2.2]; exact b'.2.1, by rw [e0.2.2.2]; exact b'.2.2.1, by rw [e0.2.2.2]; exact b'.2.2.2⟩, c', fun j hj => ?_, fun s' j h1 h5 hj => ⟨by rw [ar_pr, if_neg (by omega)]; exact (f' s' j h1 h5 hj).1, li_st_ag hp (by unfold lnp; omega) (f' s' j h1 h5 hj).2⟩, ⟨by rw [ai_pr]; exact z'.1, by rw [ai_pr]; exact z'.2.1, by rw [ai_pr]; exact z'.2.2.1, fun q => by rw [ai_pr]; exact z'.2.2.2.1 q, fun q => by rw [ai_pr]; exact z'.2.2.2.2 q⟩, by rw [ar_pr, if_neg (by omega)]; exact n0', by rw [ar_pr, if_neg (by omega)]; exact n1'⟩
      by_cases e : j = k
      · subst e
        refine ⟨by rw [ar_pr, if_pos ⟨rfl, rfl⟩, hz], rc_st_ag hp (fun q hq => by omega) ?_⟩
        rw [← hz]; exact hl'
      · exact ⟨by rw [ar_pr, if_neg (fun q => e q.2)]; exact (d' j (by omega)).1, rc_st_ag hp (fun q hq => by omega) (d' j (by omega)).2⟩
  have kp : ∀ (hh : ax_H) (kd ln : Nat), t < hh.1 → (ax_s hh t).1 = 8 → (ax_s (ax_nw hh kd ln) t).1 = 8 := fun hh kd ln hl hk => by rw [as_nw, if_neg (by omega)]; exact hk
  have k1 := kp h 12 600 (by show t < h.1; omega) hs
  have k2 := kp (ax_pr (ax_nw h 12 600) t 0 (some (h.1))) 11 5 (by show t < h.1 + 1; omega) k1
  have k3 := kp (ax_pr (ax_nw (ax_pr (ax_nw h 12 600) t 0 (some (h.1))) 11 5) t 1 (some (h.1 + 1))) 17 2 (by show t < h.1 + 1 + 1; omega) k2
  have k4 := kp (ax_pr (ax_nw (ax_pr (ax_nw (ax_pr (ax_nw h 12 600) t 0 (some (h.1))) 11 5) t 1 (some (h.1 + 1))) 17 2) t 2 (some (h.1 + 1 + 1))) 15 10 (by show t < h.1 + 1 + 1 + 1; omega) k3
  refine ⟨by decide, by decide, ⟨by show h.1 + 1 < 1000000; omega, by decide, by decide, by decide⟩, k1, by decide, ⟨by show h.1 + 1 + 1 < 1000000; omega, by decide, by decide, by decide⟩, k2, by decide, ⟨by show h.1 + 1 + 1 + 1 < 1000000; omega, by decide, by decide, by decide⟩, k3, by decide, ⟨by show h.1 + 1 + 1 + 1 + 1 < 1000000; omega, by decide, by decide, by decide⟩, k4, k4, k4, k4, ?_⟩
  have hag : ag (fun b => b < t) h (ax_pi (ax_pi (ax_pi (ax_pr (ax_nw (ax_pr (ax_nw (ax_pr (ax_nw (ax_pr (ax_nw h 12 600) t 0 (some (h.1))) 11 5) t 1 (some (h.1 + 1))) 17 2) t 2 (some (h.1 + 1 + 1))) 15 10) t 3 (some (h.1 + 1 + 1 + 1))) t 4 0) t 5 0) t 6 (-1)) := (ag_tr (ag_tr (ag_tr (ag_tr (ag_tr (ag_tr (ag_tr (ag_tr (ag_tr (ag_tr (ag_nw (by simp only [sz_nw, sz_pr, sz_pi, sz_pl, hn]; omega)) (ag_pr (by omega))) (ag_nw (by simp only [sz_nw, sz_pr, sz_pi, sz_pl, hn]; omega))) (ag_pr (by omega))) (ag_nw (by simp only [sz_nw, sz_pr, sz_pi, sz_pl, hn]; omega))) (ag_pr (by omega))) (ag_nw (by simp only [sz_nw, sz_pr, sz_pi, sz_pl, hn]; omega))) (ag_pr (by omega))) (ag_pi (by omega))) (ag_pi (by omega))) (ag_pi (by omega)))
  refine outer 2 0 rfl (ax_pi (ax_pi (ax_pi (ax_pr (ax_nw (ax_pr (ax_nw (ax_pr (ax_nw (ax_pr (ax_nw h 12 600) t 0 (some (h.1))) 11 5) t 1 (some (h.1 + 1))) 17 2) t 2 (some (h.1 + 1 + 1))) 15 10) t 3 (some (h.1 + 1 + 1 + 1))) t 4 0) t 5 0) t 6 (-1)) 4 617 none hag (by show h.1 + 1 + 1 + 1 + 1 = _; omega) ⟨k4, ⟨?_, ?_, ?_, ?_⟩, ⟨?_, ?_, ?_, ?_⟩, fun j hj => absurd hj (Nat.not_lt_zero j), fun s' j h1 h5 hj => absurd hj (by omega), ⟨?_, ?_, ?_, fun i => ?_, fun i => ?_⟩, ?_, ?_⟩ rfl rfl
  all_goals (simp [as_nw, ar_nw, ai_nw, as_pr, ar_pr, ai_pr, as_pi, ar_pi, ai_pi, sz_nw, sz_pr, sz_pi, hn] <;> omega)
end
end

section
section
variable {g : ax_G} {Ret : Option Value → ax_H → Prop} {h : ax_H} {r : Nat}
/-! the planner -/
def pl_st (h : ax_H) (r : Nat) : Prop := (ax_s h r).1 = 4 ∧ (ax_r h r 0 = some (r + 1) ∧ ax_r h r 5 = some (r + 2) ∧ ax_r h r 6 = some (r + 3) ∧ ax_r h r 7 = some (r + 4) ∧ ax_r h r 8 = some (r + 5)) ∧ ax_s h (r + 1) = (11, 6) ∧ ax_s h (r + 2) = (11, 6) ∧ ax_s h (r + 3) = (14, 64) ∧ ax_s h (r + 4) = (14, 6) ∧ od_st h (r + 5)
theorem pl_st_same {F : Nat → Prop} {h h' : ax_H} (s : ax_same F h h') (a : pl_st h r) : pl_st h' r := by
  obtain ⟨a1, ⟨b1, b2, b3, b4, b5⟩, c1, c2, c3, c4, c5⟩ := a
  exact ⟨by rw [s.2.1]; exact a1, ⟨by rw [s.2.2.1]; exact b1, by rw [s.2.2.1]; exact b2, by rw [s.2.2.1]; exact b3, by rw [s.2.2.1]; exact b4, by rw [s.2.2.1]; exact b5⟩, by rw [s.2.1]; exact c1, by rw [s.2.1]; exact c2, by rw [s.2.1]; exact c3, by rw [s.2.1]; exact c4, od_st_same s c5⟩
theorem pl_st_ag {P : Nat → Prop} {h h' : ax_H} (s : ag P h h') (i : ∀ j, j < 7 → P (r + j)) (a : pl_st h r) : pl_st h' r := by
  obtain ⟨a1, ⟨b1, b2, b3, b4, b5⟩, c1, c2, c3, c4, c5⟩ := a
  have e0 := s _ (i 0 (by decide))
  rw [Nat.add_zero] at e0
  exact ⟨by rw [e0.1]; exact a1, ⟨by rw [e0.2.2.2]; exact b1, by rw [e0.2.2.2]; exact b2, by rw [e0.2.2.2]; exact b3, by rw [e0.2.2.2]; exact b4, by rw [e0.2.2.2]; exact b5⟩, by rw [(s _ (i 1 (by decide))).1]; exact c1, by rw [(s _ (i 2 (by decide))).1]; exact c2, by rw [(s _ (i 3 (by decide))).1]; exact c3, by rw [(s _ (i 4 (by decide))).1]; exact c4, od_st_ag s ⟨i 5 (by decide), i 6 (by decide)⟩ c5⟩
theorem c_init4 (hn : h.1 = r + 1) (ha : r < 800000) (hs : (ax_s h r).1 = 4) (hq : ∀ h', ag (fun b => b < r) h h' → h'.1 = r + 7 → pl_st h' r → Ret none h') : mX4_init g [.ref r] h Ret := by
  have kp : ∀ (hh : ax_H) (kd ln : Nat), r < hh.1 → (ax_s hh r).1 = 4 → (ax_s (ax_nw hh kd ln) r).1 = 4 := fun hh kd ln hl hk => by rw [as_nw, if_neg (by omega)]; exact hk
  have k1 := kp h 11 6 (by show r < h.1; omega) hs
  have k2 := kp (ax_pl (ax_pi (ax_pl (ax_pl (ax_pr (ax_nw h 11 6) r 0 (some (h.1))) r 1 0) r 2 0) r 3 (-1)) r 4 0) 11 6 (by show r < h.1 + 1; omega) k1
  have k3 := kp (ax_pr (ax_nw (ax_pl (ax_pi (ax_pl (ax_pl (ax_pr (ax_nw h 11 6) r 0 (some (h.1))) r 1 0) r 2 0) r 3 (-1)) r 4 0) 11 6) r 5 (some (h.1 + 1))) 14 64 (by show r < h.1 + 1 + 1; omega) k2
  have k4 := kp (ax_pr (ax_nw (ax_pr (ax_nw (ax_pl (ax_pi (ax_pl (ax_pl (ax_pr (ax_nw h 11 6) r 0 (some (h.1))) r 1 0) r 2 0) r 3 (-1)) r 4 0) 11 6) r 5 (some (h.1 + 1))) 14 64) r 6 (some (h.1 + 1 + 1))) 14 6 (by show r < h.1 + 1 + 1 + 1; omega) k3
  have k5 := kp (ax_pr (ax_nw (ax_pr (ax_nw (ax_pr (ax_nw (ax_pl (ax_pi (ax_pl (ax_pl (ax_pr (ax_nw h 11 6) r 0 (some (h.1))) r 1 0) r 2 0) r 3 (-1)) r 4 0) 11 6) r 5 (some (h.1 + 1))) 14 64) r 6 (some (h.1 + 1 + 1))) 14 6) r 7 (some (h.1 + 1 + 1 + 1))) 3 0 (by show r < h.1 + 1 + 1 + 1 + 1; omega) k4
  have hag : ag (fun b => b < r) h (ax_nw (ax_pr (ax_nw (ax_pr (ax_nw (ax_pr (ax_nw (ax_pl (ax_pi (ax_pl (ax_pl (ax_pr (ax_nw h 11 6) r 0 (some (h.1))) r 1 0) r 2 0) r 3 (-1)) r 4 0) 11 6) r 5 (some (h.1 + 1))) 14 64) r 6 (some (h.1 + 1 + 1))) 14 6) r 7 (some (h.1 + 1 + 1 + 1))) 3 0) := (ag_tr (ag_tr (ag_tr (ag_tr (ag_tr (ag_tr (ag_tr (ag_tr (ag_tr (ag_tr (ag_tr (ag_tr (ag_nw (by simp only [sz_nw, sz_pr, sz_pi, sz_pl, hn]; omega)) (ag_pr (by omega))) (ag_pl (by omega))) (ag_pl (by omega))) (ag_pi (by omega))) (ag_pl (by omega))) (ag_nw (by simp only [sz_nw, sz_pr, sz_pi, sz_pl, hn]; omega))) (ag_pr (by omega))) (ag_nw (by simp only [sz_nw, sz_pr, sz_pi, sz_pl, hn]; omega))) (ag_pr (by omega))) (ag_nw (by simp only [sz_nw, sz_pr, sz_pi, sz_pl, hn]; omega))) (ag_pr (by omega))) (ag_nw (by simp only [sz_nw, sz_pr, sz_pi, sz_pl, hn]; omega)))
  have hz5 : ((ax_nw (ax_pr (ax_nw (ax_pr (ax_nw (ax_pr (ax_nw (ax_pl (ax_pi (ax_pl (ax_pl (ax_pr (ax_nw h 11 6) r 0 (some (h.1))) r 1 0) r 2 0) r 3 (-1)) r 4 0) 11 6) r 5 (some (h.1 + 1))) 14 64) r 6 (some (h.1 + 1 + 1))) 14 6) r 7 (some (h.1 + 1 + 1 + 1))) 3 0)).1 = r + 5 + 1 := by show h.1 + 1 + 1 + 1 + 1 + 1 = _; omega
  have hs5 : (ax_s (ax_nw (ax_pr (ax_nw (ax_pr (ax_nw (ax_pr (ax_nw (ax_pl (ax_pi (ax_pl (ax_pl (ax_pr (ax_nw h 11 6) r 0 (some (h.1))) r 1 0) r 2 0) r 3 (-1)) r 4 0) 11 6) r 5 (some (h.1 + 1))) 14 64) r 6 (some (h.1 + 1 + 1))) 14 6) r 7 (some (h.1 + 1 + 1 + 1))) 3 0) (r + 5)).1 = 3 := by (simp [as_nw, ar_nw, ai_nw, as_pr, ar_pr, ai_pr, as_pi, ar_pi, ai_pi, as_pl, ar_pl, sz_nw, sz_pr, sz_pi, sz_pl, hn] <;> omega)
  have hpre : (ax_r (ax_nw (ax_pr (ax_nw (ax_pr (ax_nw (ax_pr (ax_nw (ax_pl (ax_pi (ax_pl (ax_pl (ax_pr (ax_nw h 11 6) r 0 (some (h.1))) r 1 0) r 2 0) r 3 (-1)) r 4 0) 11 6) r 5 (some (h.1 + 1))) 14 64) r 6 (some (h.1 + 1 + 1))) 14 6) r 7 (some (h.1 + 1 + 1 + 1))) 3 0) r 0 = some (r + 1) ∧ ax_r (ax_nw (ax_pr (ax_nw (ax_pr (ax_nw (ax_pr (ax_nw (ax_pl (ax_pi (ax_pl (ax_pl (ax_pr (ax_nw h 11 6) r 0 (some (h.1))) r 1 0) r 2 0) r 3 (-1)) r 4 0) 11 6) r 5 (some (h.1 + 1))) 14 64) r 6 (some (h.1 + 1 + 1))) 14 6) r 7 (some (h.1 + 1 + 1 + 1))) 3 0) r 5 = some (r + 2) ∧ ax_r (ax_nw (ax_pr (ax_nw (ax_pr (ax_nw (ax_pr (ax_nw (ax_pl (ax_pi (ax_pl (ax_pl (ax_pr (ax_nw h 11 6) r 0 (some (h.1))) r 1 0) r 2 0) r 3 (-1)) r 4 0) 11 6) r 5 (some (h.1 + 1))) 14 64) r 6 (some (h.1 + 1 + 1))) 14 6) r 7 (some (h.1 + 1 + 1 + 1))) 3 0) r 6 = some (r + 3) ∧ ax_r (ax_nw (ax_pr (ax_nw (ax_pr (ax_nw (ax_pr (ax_nw (ax_pl (ax_pi (ax_pl (ax_pl (ax_pr (ax_nw h 11 6) r 0 (some (h.1))) r 1 0) r 2 0) r 3 (-1)) r 4 0) 11 6) r 5 (some (h.1 + 1))) 14 64) r 6 (some (h.1 + 1 + 1))) 14 6) r 7 (some (h.1 + 1 + 1 + 1))) 3 0) r 7 = some (r + 4)) ∧ ax_s (ax_nw (ax_pr (ax_nw (ax_pr (ax_nw (ax_pr (ax_nw (ax_pl (ax_pi (ax_pl (ax_pl (ax_pr (ax_nw h 11 6) r 0 (some (h.1))) r 1 0) r 2 0) r 3 (-1)) r 4 0) 11 6) r 5 (some (h.1 + 1))) 14 64) r 6 (some (h.1 + 1 + 1))) 14 6) r 7 (some (h.1 + 1 + 1 + 1))) 3 0) (r + 1) = (11, 6) ∧ ax_s (ax_nw (ax_pr (ax_nw (ax_pr (ax_nw (ax_pr (ax_nw (ax_pl (ax_pi (ax_pl (ax_pl (ax_pr (ax_nw h 11 6) r 0 (some (h.1))) r 1 0) r 2 0) r 3 (-1)) r 4 0) 11 6) r 5 (some (h.1 + 1))) 14 64) r 6 (some (h.1 + 1 + 1))) 14 6) r 7 (some (h.1 + 1 + 1 + 1))) 3 0) (r + 2) = (11, 6) ∧ ax_s (ax_nw (ax_pr (ax_nw (ax_pr (ax_nw (ax_pr (ax_nw (ax_pl (ax_pi (ax_pl (ax_pl (ax_pr (ax_nw h 11 6) r 0 (some (h.1))) r 1 0) r 2 0) r 3 (-1)) r 4 0) 11 6) r 5 (some (h.1 + 1))) 14 64) r 6 (some (h.1 + 1 + 1))) 14 6) r 7 (some (h.1 + 1 + 1 + 1))) 3 0) (r + 3) = (14, 64) ∧ ax_s (ax_nw (ax_pr (ax_nw (ax_pr (ax_nw (ax_pr (ax_nw (ax_pl (ax_pi (ax_pl (ax_pl (ax_pr (ax_nw h 11 6) r 0 (some (h.1))) r 1 0) r 2 0) r 3 (-1)) r 4 0) 11 6) r 5 (some (h.1 + 1))) 14 64) r 6 (some (h.1 + 1 + 1))) 14 6) r 7 (some (h.1 + 1 + 1 + 1))) 3 0) (r + 4) = (14, 6) := by
    refine ⟨⟨?_, ?_, ?_, ?_⟩, ?_, ?_, ?_, ?_⟩
    all_goals (simp [as_nw, ar_nw, ai_nw, as_pr, ar_pr, ai_pr, as_pi, ar_pi, ai_pi, as_pl, ar_pl, sz_nw, sz_pr, sz_pi, sz_pl, hn] <;> omega)
  refine eX4_init ⟨by decide, by decide, ⟨by show h.1 + 1 < 1000000; omega, by decide, by decide, by decide⟩, k1, k1, k1, k1, k1, by decide, ⟨by show h.1 + 1 + 1 < 1000000; omega, by decide, by decide, by decide⟩, k2, by decide, ⟨by show h.1 + 1 + 1 + 1 < 1000000; omega, by decide, by decide, by decide⟩, k3, by decide, ⟨by show h.1 + 1 + 1 + 1 + 1 < 1000000; omega, by decide, by decide, by decide⟩, k4, ⟨by show h.1 + 1 + 1 + 1 + 1 + 1 < 1000000; omega, by decide, by decide⟩, rfl, ⟨by simp [Value.category], by decide, by decide⟩, ?_, ?_⟩
  · simp only [sz_nw, sz_pr, sz_pi, sz_pl, as_nw]; simp
  have ez : h.1 + 1 + 1 + 1 + 1 = r + 5 := by omega
  show ax_M g 1 1 12 yX3_init cX3_init 1 none [.ref (h.1 + 1 + 1 + 1 + 1)] (ax_nw (ax_pr (ax_nw (ax_pr (ax_nw (ax_pr (ax_nw (ax_pl (ax_pi (ax_pl (ax_pl (ax_pr (ax_nw h 11 6) r 0 (some (h.1))) r 1 0) r 2 0) r 3 (-1)) r 4 0) 11 6) r 5 (some (h.1 + 1))) 14 64) r 6 (some (h.1 + 1 + 1))) 14 6) r 7 (some (h.1 + 1 + 1 + 1))) 3 0) _
  rw [ez]
  revert hag hz5 hs5 hpre k5
  generalize (ax_nw (ax_pr (ax_nw (ax_pr (ax_nw (ax_pr (ax_nw (ax_pl (ax_pi (ax_pl (ax_pl (ax_pr (ax_nw h 11 6) r 0 (some (h.1))) r 1 0) r 2 0) r 3 (-1)) r 4 0) 11 6) r 5 (some (h.1 + 1))) 14 64) r 6 (some (h.1 + 1 + 1))) 14 6) r 7 (some (h.1 + 1 + 1 + 1))) 3 0) = hT
  intro k5 hag hz5 hs5 hpre
  refine c_init3 hz5 (by omega) hs5 (fun h' hg' hz' ho => ?_)
  have e0 := hg' r (by omega)
  have hp : ag (fun b => b ≠ r) h' (ax_pr h' r 8 (some (h.1 + 1 + 1 + 1 + 1))) := ag_pr (fun q => q rfl)
  refine ⟨rfl, by rw [e0.1]; exact k5, ⟨by decide, by decide⟩, hq _ (ag_tr hag (ag_tr (ag_mono hg' (fun x hx => by omega)) (ag_mono hp (fun x hx => by omega)))) (by show h'.1 = _; omega) ⟨by rw [as_pr, e0.1]; exact k5, ⟨?_, ?_, ?_, ?_, ?_⟩, ?_, ?_, ?_, ?_, od_st_ag hp (by omega) ho⟩⟩
  · rw [ar_pr, if_neg (by omega), e0.2.2.2]; exact hpre.1.1
  · rw [ar_pr, if_neg (by omega), e0.2.2.2]; exact hpre.1.2.1
  · rw [ar_pr, if_neg (by omega), e0.2.2.2]; exact hpre.1.2.2.1
  · rw [ar_pr, if_neg (by omega), e0.2.2.2]; exact hpre.1.2.2.2
  · rw [ar_pr, if_pos ⟨rfl, rfl⟩]; exact congrArg some ez
  · rw [as_pr, (hg' (r + 1) (by omega)).1]; exact hpre.2.1
  · rw [as_pr, (hg' (r + 2) (by omega)).1]; exact hpre.2.2.1
  · rw [as_pr, (hg' (r + 3) (by omega)).1]; exact hpre.2.2.2.1
  · rw [as_pr, (hg' (r + 4) (by omega)).1]; exact hpre.2.2.2.2
/-! the search -/
def se_st (h : ax_H) (r : Nat) : Prop := (ax_s h r).1 = 7 ∧ (ax_r h r 0 = some (r + 1) ∧ ax_r h r 3 = some (r + 2) ∧ ax_r h r 4 = some (r + 3)) ∧ (ax_s h (r + 1) = (11, 3) ∧ ax_s h (r + 2) = (11, 3) ∧ ax_s h (r + 3) = (16, 3)) ∧ ∀ d, d < 3 → ax_r h (r + 3) d = some (r + 4 + 2 * d) ∧ od_st h (r + 4 + 2 * d)
theorem se_st_same {F : Nat → Prop} {h h' : ax_H} (s : ax_same F h h') (a : se_st h r) : se_st h' r := by
  obtain ⟨a1, ⟨b1, b2, b3⟩, ⟨c1, c2, c3⟩, d⟩ := a
  exact ⟨by rw [s.2.1]; exact a1, ⟨by rw [s.2.2.1]; exact b1, by rw [s.2.2.1]; exact b2, by rw [s.2.2.1]; exact b3⟩, ⟨by rw [s.2.1]; exact c1, by rw [s.2.1]; exact c2, by rw [s.2.1]; exact c3⟩, fun q hq => ⟨by rw [s.2.2.1]; exact (d q hq).1, od_st_same s (d q hq).2⟩⟩
/-- with its first n odds -/
def se_n (h : ax_H) (r n : Nat) : Prop := (ax_s h r).1 = 7 ∧ (ax_r h r 0 = some (r + 1) ∧ ax_r h r 3 = some (r + 2) ∧ ax_r h r 4 = some (r + 3)) ∧ (ax_s h (r + 1) = (11, 3) ∧ ax_s h (r + 2) = (11, 3) ∧ ax_s h (r + 3) = (16, 3)) ∧ ∀ d, d < n → ax_r h (r + 3) d = some (r + 4 + 2 * d) ∧ od_st h (r + 4 + 2 * d)
theorem se_n_ag {P : Nat → Prop} {h h' : ax_H} {n : Nat} (s : ag P h h') (i : ∀ j, j < 4 + 2 * n → P (r + j)) (a : se_n h r n) : se_n h' r n := by
  obtain ⟨a1, ⟨b1, b2, b3⟩, ⟨c1, c2, c3⟩, d⟩ := a
  have e0 := s _ (i 0 (by omega))
  rw [Nat.add_zero] at e0
  exact ⟨by rw [e0.1]; exact a1, ⟨by rw [e0.2.2.2]; exact b1, by rw [e0.2.2.2]; exact b2, by rw [e0.2.2.2]; exact b3⟩, ⟨by rw [(s _ (i 1 (by omega))).1]; exact c1, by rw [(s _ (i 2 (by omega))).1]; exact c2, by rw [(s _ (i 3 (by omega))).1]; exact c3⟩, fun q hq => ⟨by rw [(s _ (i 3 (by omega))).2.2.2]; exact (d q hq).1, od_st_ag s ⟨by have := i (4 + 2 * q) (by omega); rwa [← Nat.add_assoc] at this, by have := i (5 + 2 * q) (by omega); rwa [show r + (5 + 2 * q) = r + 4 + 2 * q + 1 by omega] at this⟩ (d q hq).2⟩⟩
theorem c_init7 (hn : h.1 = r + 1) (ha : r < 800000) (hs : (ax_s h r).1 = 7) (hq : ∀ h', ag (fun b => b < r) h h' → h'.1 = r + 10 → se_st h' r → Ret none h') : mX7_init g [.ref r] h Ret := by
  have kp : ∀ (hh : ax_H) (kd ln : Nat), r < hh.1 → (ax_s hh r).1 = 7 → (ax_s (ax_nw hh kd ln) r).1 = 7 := fun hh kd ln hl hk => by rw [as_nw, if_neg (by omega)]; exact hk
  have k1 := kp h 11 3 (by show r < h.1; omega) hs
  have k2 := kp (ax_pi (ax_pi (ax_pr (ax_nw h 11 3) r 0 (some (h.1))) r 1 0) r 2 0) 11 3 (by show r < h.1 + 1; omega) k1
  have k3 := kp (ax_pr (ax_nw (ax_pi (ax_pi (ax_pr (ax_nw h 11 3) r 0 (some (h.1))) r 1 0) r 2 0) 11 3) r 3 (some (h.1 + 1))) 16 3 (by show r < h.1 + 1 + 1; omega) k2
  have hag : ag (fun b => b < r) h (ax_pr (ax_nw (ax_pr (ax_nw (ax_pi (ax_pi (ax_pr (ax_nw h 11 3) r 0 (some (h.1))) r 1 0) r 2 0) 11 3) r 3 (some (h.1 + 1))) 16 3) r 4 (some (h.1 + 1 + 1))) := (ag_tr (ag_tr (ag_tr (ag_tr (ag_tr (ag_tr (ag_tr (ag_nw (by simp only [sz_nw, sz_pr, sz_pi, sz_pl, hn]; omega)) (ag_pr (by omega))) (ag_pi (by omega))) (ag_pi (by omega))) (ag_nw (by simp only [sz_nw, sz_pr, sz_pi, sz_pl, hn]; omega))) (ag_pr (by omega))) (ag_nw (by simp only [sz_nw, sz_pr, sz_pi, sz_pl, hn]; omega))) (ag_pr (by omega)))
  have hst : se_n (ax_pr (ax_nw (ax_pr (ax_nw (ax_pi (ax_pi (ax_pr (ax_nw h 11 3) r 0 (some (h.1))) r 1 0) r 2 0) 11 3) r 3 (some (h.1 + 1))) 16 3) r 4 (some (h.1 + 1 + 1))) r 0 := by
    refine ⟨k3, ⟨?_, ?_, ?_⟩, ⟨?_, ?_, ?_⟩, fun d hd => absurd hd (Nat.not_lt_zero d)⟩
    all_goals (simp [as_nw, ar_nw, ai_nw, as_pr, ar_pr, ai_pr, as_pi, ar_pi, ai_pi, as_pl, ar_pl, sz_nw, sz_pr, sz_pi, sz_pl, hn] <;> omega)
  refine uX7_init (fun A hA => vX7_init_0 hA ⟨by decide, by decide, ⟨by show h.1 + 1 < 1000000; omega, by decide, by decide, by decide⟩, k1, k1, k1, by decide, ⟨by show h.1 + 1 + 1 < 1000000; omega, by decide, by decide, by decide⟩, k2, by decide, ⟨by show h.1 + 1 + 1 + 1 < 1000000; omega, by decide, by decide, by decide⟩, k3, ?_⟩)
  have key : ∀ n d : Nat, d + n = 3 → ∀ (hh : ax_H) (u1 u2 : Nat), ag (fun b => b < r) h hh → hh.1 = r + 4 + 2 * d → se_n hh r d → u1 = 3 + 2 * d → u2 = 9 + 15 * d → A (38, [some (.ref r), some (.int (nI d))], [], hh, u1, u2) := by
    intro n
    induction n with
    | zero =>
      intro d hd hh u1 u2 hg hz hi e1 e2
      obtain rfl : d = 3 := by omega
      exact vX7_init_38 hA ⟨fun _ => ⟨⟨by omega, by omega⟩, hq hh hg (by omega) hi⟩, fun q => absurd (by decide) q⟩
    | succ n ih =>
      intro d hd hh u1 u2 hg hz hi e1 e2
      refine vX7_init_38 hA ⟨fun q => absurd q (nI_ge (a := d) (b := 3) (by omega) (by decide)), fun _ => ⟨hi.1, _, hi.2.1.2.2, ⟨by omega, by omega, by omega⟩, rfl, ⟨by simp [Value.category], by omega, by omega⟩, by rw [as_nw, if_pos rfl], ?_⟩⟩
      have hnw : (ax_nw hh 3 0).1 = hh.1 + 1 := rfl
      refine c_init3 (r := hh.1) hnw (by omega) (by rw [as_nw, if_pos rfl]) (fun h' hg' hz' ho => ?_)
      have hg2 : ag (fun b => b < hh.1) hh h' := ag_tr (ag_nw (by omega)) hg'
      have hi' : se_n h' r d := se_n_ag hg2 (fun j hj => by omega) hi
      refine ⟨rfl, by rw [hi'.2.2.1.2.2], ho.1, by rw [hi'.2.2.1.2.2]; exact vp_in_nI (by omega) (by decide), ?_⟩
      show A (38, [some (.ref r), some (.int (nI d + 1))], [], ax_pr h' (r + 3) (nI d).toNatClampNeg (some hh.1), u1 + 1 + 1, u2 + 3 + 12)
      rw [← nI_succ, nI_clamp (by omega)]
      have hp : ag (fun b => b ≠ r + 3) h' (ax_pr h' (r + 3) d (some hh.1)) := ag_pr (fun q => q rfl)
      have e0 := hp r (by omega)
      refine ih (d + 1) (by omega) _ _ _ (ag_tr hg (ag_tr (ag_mono hg2 (fun x hx => by omega)) (ag_mono hp (fun x hx => by omega)))) (by show h'.1 = _; omega) ⟨by rw [e0.1]; exact hi'.1, ⟨by rw [e0.2.2.2]; exact hi'.2.1.1, by rw [e0.2.2.2]; exact hi'.2.1.2.1, by rw [e0.2.2.2]; exact hi'.2.1.2.2⟩, hi'.2.2.1, fun q hq => ?_⟩ (by omega) (by omega)
      by_cases e : q = d
      · subst e
        refine ⟨by rw [ar_pr, if_pos ⟨rfl, rfl⟩, hz], od_st_ag hp (by omega) ?_⟩
        rw [← hz]; exact ho
      · exact ⟨by rw [ar_pr, if_neg (fun z => e z.2)]; exact (hi'.2.2.2 q (by omega)).1, od_st_ag hp (by omega) (hi'.2.2.2 q (by omega)).2⟩
  exact key 3 0 rfl _ 3 9 hag (by show h.1 + 1 + 1 + 1 = _; omega) hst rfl rfl
end
end

section
section
variable {g : ax_G} {Ret : Option Value → ax_H → Prop} {h : ax_H} {r : Nat}
/-! the reader -/
def re_n (h : ax_H) (r tp n : Nat) : Prop := (ax_s h r).1 = 5 ∧ (ax_r h r 0 = some tp ∧ ax_r h r 1 = some (r + 1) ∧ ax_r h r 2 = some (r + 7) ∧ ax_r h r 3 = some (r + 8)) ∧ rc_st h (r + 1) ∧ ax_s h (r + 7) = (15, 5) ∧ ax_s h (r + 8) = (11, 3) ∧ ax_r h (r + 7) 0 = none ∧ ∀ s, 1 ≤ s → s < n → ax_r h (r + 7) s = some (r + 7 + 2 * s) ∧ li_st h (r + 7 + 2 * s) s
def re_st (h : ax_H) (r tp : Nat) : Prop := re_n h r tp 5
theorem re_n_ag {P : Nat → Prop} {h h' : ax_H} {tp n : Nat} (s : ag P h h') (i : ∀ j, j < 9 → P (r + j)) (il : ∀ s, 1 ≤ s → s < n → P (r + 7 + 2 * s) ∧ P (r + 7 + 2 * s + 1)) (a : re_n h r tp n) : re_n h' r tp n := by
  obtain ⟨a1, ⟨b1, b2, b3, b4⟩, c1, c2, c3, c4, d⟩ := a
  have e0 := s _ (i 0 (by omega))
  rw [Nat.add_zero] at e0
  have e7 := s _ (i 7 (by omega))
  exact ⟨by rw [e0.1]; exact a1, ⟨by rw [e0.2.2.2]; exact b1, by rw [e0.2.2.2]; exact b2, by rw [e0.2.2.2]; exact b3, by rw [e0.2.2.2]; exact b4⟩, rc_st_ag s (fun j hj => by have := i (1 + j) (by omega); rwa [← Nat.add_assoc] at this) c1, by rw [e7.1]; exact c2, by rw [(s _ (i 8 (by omega))).1]; exact c3, by rw [e7.2.2.2]; exact c4, fun q h1 hq => ⟨by rw [e7.2.2.2]; exact (d q h1 hq).1, li_st_ag s (il q h1 hq) (d q h1 hq).2⟩⟩
theorem c_init5 {tp : Nat} (hn : h.1 = r + 1) (ha : r < 800000) (hs : (ax_s h r).1 = 5) (hq : ∀ h', ag (fun b => b < r) h h' → h'.1 = r + 17 → re_st h' r tp → Ret none h') : mX5_init g [.ref r, .ref tp] h Ret := by
  refine uX5_init (fun A hA => vX5_init_0 hA ⟨by decide, ⟨by omega, by decide, by decide⟩, rfl, ⟨by simp [Value.category], by decide, by decide⟩, by rw [as_nw, if_pos rfl], ?_⟩)
  rw [hn]
  refine c_init6 (r := r + 1) (by show h.1 + 1 = _; omega) (by omega) (by rw [as_nw, if_pos hn.symm]) (fun h2 hg' hn2 hr2 _ _ => ?_)
  have hg2 : ag (fun b => b < r + 1) h h2 := ag_tr (ag_nw (by omega)) hg'
  rw [← hn]
  have k0 : (ax_s h2 r).1 = 5 := by rw [(hg2 r (by omega)).1]; exact hs
  have k1 : (ax_s (ax_nw (ax_pr h2 r 1 (some h.1)) 15 5) r).1 = 5 := by rw [as_nw, if_neg (by show r ≠ h2.1; omega)]; exact k0
  have k2 : (ax_s (ax_nw (ax_pr (ax_nw (ax_pr h2 r 1 (some h.1)) 15 5) r 2 (some h2.1)) 11 3) r).1 = 5 := by rw [as_nw, if_neg (by show r ≠ h2.1 + 1; omega)]; exact k1
  have hag : ag (fun b => b ≠ r ∧ b < r + 7) h2 (ax_pr (ax_pi (ax_pi (ax_pi (ax_pi (ax_pi (ax_pi (ax_pi (ax_pi (ax_pi (ax_pi (ax_pr (ax_nw (ax_pr (ax_nw (ax_pr h2 r 1 (some h.1)) 15 5) r 2 (some h2.1)) 11 3) r 3 (some (h2.1 + 1))) r 4 0) r 5 (-1)) r 6 0) r 7 0) r 8 0) r 9 0) r 10 0) r 11 0) r 12 (-1)) r 13 (-1)) r 0 (some tp)) := (ag_tr (ag_tr (ag_tr (ag_tr (ag_tr (ag_tr (ag_tr (ag_tr (ag_tr (ag_tr (ag_tr (ag_tr (ag_tr (ag_tr (ag_tr (ag_pr (by omega)) (ag_nw (by simp only [sz_nw, sz_pr, sz_pi, sz_pl, hn2]; omega))) (ag_pr (by omega))) (ag_nw (by simp only [sz_nw, sz_pr, sz_pi, sz_pl, hn2]; omega))) (ag_pr (by omega))) (ag_pi (by omega))) (ag_pi (by omega))) (ag_pi (by omega))) (ag_pi (by omega))) (ag_pi (by omega))) (ag_pi (by omega))) (ag_pi (by omega))) (ag_pi (by omega))) (ag_pi (by omega))) (ag_pi (by omega))) (ag_pr (by omega)))
  have hst : re_n (ax_pr (ax_pi (ax_pi (ax_pi (ax_pi (ax_pi (ax_pi (ax_pi (ax_pi (ax_pi (ax_pi (ax_pr (ax_nw (ax_pr (ax_nw (ax_pr h2 r 1 (some h.1)) 15 5) r 2 (some h2.1)) 11 3) r 3 (some (h2.1 + 1))) r 4 0) r 5 (-1)) r 6 0) r 7 0) r 8 0) r 9 0) r 10 0) r 11 0) r 12 (-1)) r 13 (-1)) r 0 (some tp)) r tp 1 := by
    refine ⟨k2, ⟨?_, ?_, ?_, ?_⟩, rc_st_ag hag (fun j hj => by omega) hr2, ?_, ?_, ?_, fun s h1 h2 => absurd h2 (by omega)⟩
    all_goals (simp [as_nw, ar_nw, ai_nw, as_pr, ar_pr, ai_pr, as_pi, ar_pi, ai_pi, as_pl, ar_pl, sz_nw, sz_pr, sz_pi, sz_pl, hn2, hn] <;> omega)
  refine ⟨rfl, k0, by decide, ⟨by show h2.1 + 1 < 1000000; omega, by decide, by decide, by decide⟩, k1, by decide, ⟨by show h2.1 + 1 + 1 < 1000000; omega, by decide, by decide, by decide⟩, k2, k2, k2, k2, k2, k2, k2, k2, k2, k2, k2, k2, ?_⟩
  have key : ∀ n s : Nat, s + n = 5 → 1 ≤ s → ∀ (hh : ax_H) (u1 u2 : Nat) (o : Option Value), ag (fun b => b < r) h hh → hh.1 = r + 7 + 2 * s → re_n hh r tp s → u1 = 6 + 2 * s → u2 = 155 + 22 * s → A (87, [some (.ref r), o, some (.int (nI s))], [], hh, u1, u2) := by
    intro n
    induction n with
    | zero =>
      intro s hsn hs1 hh u1 u2 o hg hz hi e1 e2
      obtain rfl : s = 5 := by omega
      exact vX5_init_87 hA ⟨fun _ => ⟨⟨by omega, by omega⟩, hq hh hg (by omega) hi⟩, fun q => absurd (by decide) q⟩
    | succ n ih =>
      intro s hsn hs1 hh u1 u2 o hg hz hi e1 e2
      refine vX5_init_87 hA ⟨fun q => absurd q (nI_ge (a := s) (b := 5) (by omega) (by decide)), fun _ => ⟨hi.1, _, hi.2.1.2.2.1, ⟨by omega, by omega, by omega⟩, rfl, ⟨by simp [Value.category], by omega, by omega⟩, by rw [as_nw, if_pos rfl], ?_⟩⟩
      have hnw : (ax_nw hh 2 0).1 = hh.1 + 1 := rfl
      refine c_init2 (r := hh.1) (s := s) hnw (by omega) (by rw [as_nw, if_pos rfl]) hs1 (by omega) (fun h' hg' hz' hl' _ => ?_)
      have hg2 : ag (fun b => b < hh.1) hh h' := ag_tr (ag_nw (by omega)) hg'
      have hi' : re_n h' r tp s := re_n_ag hg2 (fun j hj => by omega) (fun q h1 h2 => by omega) hi
      refine ⟨rfl, by rw [hi'.2.2.2.1], hl'.1, by rw [hi'.2.2.2.1]; exact vp_in_nI (by omega) (by decide), ?_⟩
      show A (87, [some (.ref r), ax_k2 o, some (.int (nI s + 1))], [], ax_pr h' (r + 7) (nI s).toNatClampNeg (some hh.1), u1 + 1 + 1, u2 + 4 + 18)
      rw [← nI_succ, nI_clamp (by omega)]
      have hp : ag (fun b => b ≠ r + 7) h' (ax_pr h' (r + 7) s (some hh.1)) := ag_pr (fun q => q rfl)
      have e0 := hp r (by omega)
      obtain ⟨i1, ⟨i2, i3, i4, i5⟩, i6, i7, i8, i9, i10⟩ := hi'
      refine ih (s + 1) (by omega) (by omega) _ _ _ _ (ag_tr hg (ag_tr (ag_mono hg2 (fun x hx => by omega)) (ag_mono hp (fun x hx => by omega)))) (by show h'.1 = _; omega) ⟨by rw [e0.1]; exact i1, ⟨by rw [e0.2.2.2]; exact i2, by rw [e0.2.2.2]; exact i3, by rw [e0.2.2.2]; exact i4, by rw [e0.2.2.2]; exact i5⟩, rc_st_ag hp (fun j hj => by omega) i6, i7, i8, by rw [ar_pr, if_neg (by omega)]; exact i9, fun q h1 hq => ?_⟩ (by omega) (by omega)
      by_cases e : q = s
      · subst e
        refine ⟨by rw [ar_pr, if_pos ⟨rfl, rfl⟩, hz], li_st_ag hp (by omega) ?_⟩
        rw [← hz]; exact hl'
      · exact ⟨by rw [ar_pr, if_neg (fun z => e z.2)]; exact (i10 q h1 (by omega)).1, li_st_ag hp (by omega) (i10 q h1 (by omega)).2⟩
  exact key 4 1 rfl (by omega) _ 8 177 _ (ag_tr (ag_mono hg2 (fun x hx => by omega)) (ag_mono hag (fun x hx => by omega))) (by show h2.1 + 1 + 1 = _; omega) hst rfl rfl
/-! the class's object, at place 0 -/
def x9r : List Nat := [1, 34, 35, 52, 55, 57, 59, 66, 76]
def x9R (j : Nat) (h : ax_H) : Prop := (ax_s h 0).1 = 9 ∧ ∀ i, i < j → ax_r h 0 i = some (x9r.getD i 0)
theorem x9_step {hh h' : ax_H} {n j kd ln : Nat} (hn : hh.1 = n) (n1 : 1 ≤ n) (R : x9R j hh) (hg : ag (fun b => b < n) (ax_nw hh kd ln) h') (ht : x9r.getD j 0 = n) : (ax_s h' 0).1 = 9 ∧ x9R (j + 1) (ax_pr h' 0 j (some n)) ∧ ag (fun b => 1 ≤ b ∧ b < n) hh (ax_pr h' 0 j (some n)) := by
  have h0 : ag (fun b => b < n) hh h' := ag_tr (ag_nw (by omega)) hg
  have e0 := h0 0 (by omega)
  refine ⟨by rw [e0.1]; exact R.1, ⟨by rw [as_pr, e0.1]; exact R.1, fun i hi => ?_⟩, ag_tr (ag_mono h0 (fun x hx => hx.2)) (ag_pr (by omega))⟩
  by_cases e : i = j
  · subst e; rw [ar_pr, if_pos ⟨rfl, rfl⟩, ht]
  · rw [ar_pr, if_neg (fun z => e z.2), e0.2.2.2]; exact R.2 i (by omega)
/-- where everything of the class lies -/
def cs_st (h : ax_H) : Prop := xs_st h ∧ to_st h 1 ∧ re_st h 35 2 ∧ pl_st h 59 ∧ se_st h 66 ∧ ax_s h 34 = (18, 3) ∧ ax_r h 5 0 = none ∧ ax_r h 5 1 = none
theorem to_st_ag {P : Nat → Prop} {h h' : ax_H} {t : Nat} (s : ag P h h') (i : ∀ b, t ≤ b → b < t + 33 → P b) (a : to_st h t) : to_st h' t := by
  obtain ⟨a1, ⟨a2, a3, a4, a5⟩, ⟨b1, b2, b3, b4⟩, c1, c2⟩ := a
  have e0 := s t (i t (by omega) (by omega))
  have e3 := s (t + 3) (i _ (by omega) (by omega))
  have e4 := s (t + 4) (i _ (by omega) (by omega))
  exact ⟨by rw [e0.1]; exact a1, ⟨by rw [e0.2.2.2]; exact a2, by rw [e0.2.2.2]; exact a3, by rw [e0.2.2.2]; exact a4, by rw [e0.2.2.2]; exact a5⟩, ⟨by rw [(s (t + 1) (i _ (by omega) (by omega))).1]; exact b1, by rw [(s (t + 2) (i _ (by omega) (by omega))).1]; exact b2, by rw [e3.1]; exact b3, by rw [e4.1]; exact b4⟩, fun k hk => ⟨by rw [e3.2.2.2]; exact (c1 k hk).1, rc_st_ag s (fun j hj => i _ (by omega) (by omega)) (c1 k hk).2⟩, fun s' k h1 h5 hk => ⟨by rw [e4.2.2.2]; exact (c2 s' k h1 h5 hk).1, li_st_ag s ⟨i _ (by unfold lnp; omega) (by unfold lnp; omega), i _ (by unfold lnp; omega) (by unfold lnp; omega)⟩ (c2 s' k h1 h5 hk).2⟩⟩
theorem tz_ag {P : Nat → Prop} {h h' : ax_H} {t : Nat} (s : ag P h h') (i : P t ∧ P (t + 1) ∧ P (t + 2)) (a : tz h t) : tz h' t := by
  obtain ⟨z1, z2, z3, z4, z5⟩ := a
  exact ⟨by rw [(s _ i.1).2.1]; exact z1, by rw [(s _ i.1).2.1]; exact z2, by rw [(s _ i.1).2.1]; exact z3, fun k => by rw [(s _ i.2.1).2.1]; exact z4 k, fun k => by rw [(s _ i.2.2).2.1]; exact z5 k⟩
theorem c_init9 (hn : h.1 = 1) (hs : (ax_s h 0).1 = 9) (hq : ∀ h', h'.1 = 77 → cs_st h' → tz h' 1 → (∀ k, ax_r h' 34 k = none) → Ret none h') : mX9_init g [.ref 0] h Ret := by
  have R0 : x9R 0 h := ⟨hs, fun i hi => absurd hi (Nat.not_lt_zero i)⟩
  refine eX9_init ⟨by decide, ⟨by omega, by decide, by decide⟩, rfl, ⟨by simp [Value.category], by decide, by decide⟩, by rw [as_nw, if_pos rfl], ?_⟩
  rw [hn]
  refine c_init8 (t := 1) (by show h.1 + 1 = _; omega) (by omega) (by rw [as_nw, if_pos hn.symm]) (fun h2 g2 n2 st2 z2 nl0 nl1 => ?_)
  obtain ⟨k2, R1, G1⟩ := x9_step hn (Nat.le_refl 1) R0 g2 rfl
  refine ⟨rfl, k2, by decide, ⟨by show h2.1 + 1 < 1000000; omega, by decide, by decide, by decide⟩, ?_⟩
  have n2' : (ax_pr h2 0 0 (some 1)).1 = 34 := n2
  obtain ⟨k5, R2, G2⟩ := x9_step (kd := 18) (ln := 3) n2' (by omega) R1 ag_rf rfl
  rw [n2']
  have n6 : (ax_pr (ax_nw (ax_pr h2 0 0 (some 1)) 18 3) 0 1 (some 34)).1 = 35 := by show h2.1 + 1 = _; omega
  refine ⟨k5, ⟨by rw [n6]; decide, by decide, by decide⟩, rfl, ?_⟩
  rw [n6]
  have im6 : ax_s (ax_pr (ax_nw (ax_pr h2 0 0 (some 1)) 18 3) 0 1 (some 34)) 34 = (18, 3) ∧ ∀ k, ax_r (ax_pr (ax_nw (ax_pr h2 0 0 (some 1)) 18 3) 0 1 (some 34)) 34 k = none := ⟨by rw [as_pr, as_nw, if_pos n2'.symm], fun k => by rw [ar_pr, if_neg (by omega), ar_nw, if_pos n2'.symm]⟩
  have g26 : ag (fun b => 1 ≤ b ∧ b < 34) h2 (ax_pr (ax_nw (ax_pr h2 0 0 (some 1)) 18 3) 0 1 (some 34)) := ag_tr (ag_pr (by omega)) G2
  have st6 := to_st_ag g26 (fun b _ _ => by omega) st2
  have z6 := tz_ag g26 (by omega) z2
  have nl6 : ax_r (ax_pr (ax_nw (ax_pr h2 0 0 (some 1)) 18 3) 0 1 (some 34)) 5 0 = none ∧ ax_r (ax_pr (ax_nw (ax_pr h2 0 0 (some 1)) 18 3) 0 1 (some 34)) 5 1 = none := ⟨by rw [(g26 5 (by omega)).2.2.2]; exact nl0, by rw [(g26 5 (by omega)).2.2.2]; exact nl1⟩
  revert R2 im6 st6 z6 nl6 n6
  generalize ax_pr (ax_nw (ax_pr h2 0 0 (some 1)) 18 3) 0 1 (some 34) = h6
  intro R2 n6 im6 st6 z6 nl6
  have a7 : ag (fun b => b < 35) h6 (ax_nw h6 5 0) := ag_nw (by omega)
  refine ⟨by rw [(a7 0 (by omega)).1]; exact R2.1, 1, by rw [(a7 0 (by omega)).2.2.2]; exact R2.2 0 (by omega), by rw [(a7 1 (by omega)).1]; exact st6.1, 2, by rw [(a7 1 (by omega)).2.2.2]; exact st6.2.1.1, ⟨by simp [Value.category], by decide, by decide⟩, by rw [as_nw, if_pos n6.symm], ?_⟩
  refine c_init5 (r := 35) (tp := 2) (by show h6.1 + 1 = _; omega) (by omega) (by rw [as_nw, if_pos n6.symm]) (fun h10 g10 n10 re10 => ?_)
  obtain ⟨k10, R3, G3⟩ := x9_step n6 (by omega) R2 g10 rfl
  have n12 : (ax_pr h10 0 2 (some 35)).1 = 52 := n10
  have re12 : re_st (ax_pr h10 0 2 (some 35)) 35 2 := re_n_ag (P := fun b => 1 ≤ b) (ag_pr (by omega)) (fun j _ => by omega) (fun s _ _ => by omega) re10
  refine ⟨rfl, k10, ?_⟩
  revert R3 G3 n12 re12
  generalize ax_pr h10 0 2 (some 35) = h12
  intro R3 G3 n12 re12
  refine ⟨⟨by omega, by decide, by decide⟩, rfl, ⟨by simp [Value.category], by decide, by decide⟩, by rw [as_nw, if_pos rfl], ?_⟩
  rw [n12]
  refine c_init0 (r := 52) (by show h12.1 + 1 = _; omega) (by omega) (by rw [as_nw, if_pos n12.symm]) (fun h14 g14 n14 co14 => ?_)
  obtain ⟨k14, R4, G4⟩ := x9_step n12 (by omega) R3 g14 rfl
  have n16 : (ax_pr h14 0 3 (some 52)).1 = 55 := n14
  have co16 : co_st (ax_pr h14 0 3 (some 52)) 52 := co_st_ag (P := fun b => 1 ≤ b) (ag_pr (by omega)) (by omega) co14
  refine ⟨rfl, k14, ?_⟩
  revert R4 G4 n16 co16
  generalize ax_pr h14 0 3 (some 52) = h16
  intro R4 G4 n16 co16
  refine ⟨⟨by omega, by decide, by decide⟩, rfl, ⟨by simp [Value.category], by decide, by decide⟩, by rw [as_nw, if_pos rfl], ?_⟩
  rw [n16]
  refine c_init3 (r := 55) (by show h16.1 + 1 = _; omega) (by omega) (by rw [as_nw, if_pos n16.symm]) (fun h18 g18 n18 od18 => ?_)
  obtain ⟨k18, R5, G5⟩ := x9_step n16 (by omega) R4 g18 rfl
  have n20 : (ax_pr h18 0 4 (some 55)).1 = 57 := n18
  have od20 : od_st (ax_pr h18 0 4 (some 55)) 55 := od_st_ag (P := fun b => 1 ≤ b) (ag_pr (by omega)) (by omega) od18
  refine ⟨rfl, k18, ?_⟩
  revert R5 G5 n20 od20
  generalize ax_pr h18 0 4 (some 55) = h20
  intro R5 G5 n20 od20
  refine ⟨⟨by omega, by decide, by decide⟩, rfl, ⟨by simp [Value.category], by decide, by decide⟩, by rw [as_nw, if_pos rfl], ?_⟩
  rw [n20]
  refine c_init3 (r := 57) (by show h20.1 + 1 = _; omega) (by omega) (by rw [as_nw, if_pos n20.symm]) (fun h22 g22 n22 od22 => ?_)
  obtain ⟨k22, R6, G6⟩ := x9_step n20 (by omega) R5 g22 rfl
  have n24 : (ax_pr h22 0 5 (some 57)).1 = 59 := n22
  have od24 : od_st (ax_pr h22 0 5 (some 57)) 57 := od_st_ag (P := fun b => 1 ≤ b) (ag_pr (by omega)) (by omega) od22
  refine ⟨rfl, k22, ?_⟩
  revert R6 G6 n24 od24
  generalize ax_pr h22 0 5 (some 57) = h24
  intro R6 G6 n24 od24
  refine ⟨⟨by omega, by decide, by decide⟩, rfl, ⟨by simp [Value.category], by decide, by decide⟩, by rw [as_nw, if_pos rfl], ?_⟩
  rw [n24]
  refine c_init4 (r := 59) (by show h24.1 + 1 = _; omega) (by omega) (by rw [as_nw, if_pos n24.symm]) (fun h26 g26 n26 pl26 => ?_)
  obtain ⟨k26, R7, G7⟩ := x9_step n24 (by omega) R6 g26 rfl
  have n28 : (ax_pr h26 0 6 (some 59)).1 = 66 := n26
  have pl28 : pl_st (ax_pr h26 0 6 (some 59)) 59 := pl_st_ag (P := fun b => 1 ≤ b) (ag_pr (by omega)) (fun j _ => by omega) pl26
  refine ⟨rfl, k26, ?_⟩
  revert R7 G7 n28 pl28
  generalize ax_pr h26 0 6 (some 59) = h28
  intro R7 G7 n28 pl28
  refine ⟨⟨by omega, by decide, by decide⟩, rfl, ⟨by simp [Value.category], by decide, by decide⟩, by rw [as_nw, if_pos rfl], ?_⟩
  rw [n28]
  refine c_init7 (r := 66) (by show h28.1 + 1 = _; omega) (by omega) (by rw [as_nw, if_pos n28.symm]) (fun h30 g30 n30 se30 => ?_)
  obtain ⟨k30, R8, G8⟩ := x9_step n28 (by omega) R7 g30 rfl
  have n32 : (ax_pr h30 0 7 (some 66)).1 = 76 := n30
  have se32 : se_st (ax_pr h30 0 7 (some 66)) 66 := se_n_ag (P := fun b => 1 ≤ b) (ag_pr (by omega)) (fun j _ => by omega) se30
  refine ⟨rfl, k30, ?_⟩
  revert R8 G8 n32 se32
  generalize ax_pr h30 0 7 (some 66) = h32
  intro R8 G8 n32 se32
  refine ⟨⟨by omega, by decide, by decide⟩, rfl, ⟨by simp [Value.category], by decide, by decide⟩, by rw [as_nw, if_pos rfl], ?_⟩
  rw [n32]
  refine c_init1 (r := 76) (by rw [as_nw, if_pos n32.symm]) (fun h34 g34 n34 s34 => ?_)
  obtain ⟨k34, R9, G9⟩ := x9_step n32 (by omega) R8 (ag_mono g34 (fun x hx => by omega)) rfl
  refine ⟨rfl, k34, ⟨by decide, by decide⟩, ?_⟩
  have n36 : (ax_pr h34 0 8 (some 76)).1 = 77 := by show h34.1 = _; rw [n34]; show h32.1 + 1 = _; omega
  have s36 : (ax_s (ax_pr h34 0 8 (some 76)) 76).1 = 1 := s34
  revert R9 G9 n36 s36
  generalize ax_pr h34 0 8 (some 76) = hF
  intro R9 G9 n36 s36
  have G8' := ag_tr G8 (ag_mono G9 (fun x hx => by omega))
  have G7' := ag_tr G7 (ag_mono G8' (fun x hx => by omega))
  have G6' := ag_tr G6 (ag_mono G7' (fun x hx => by omega))
  have G5' := ag_tr G5 (ag_mono G6' (fun x hx => by omega))
  have G4' := ag_tr G4 (ag_mono G5' (fun x hx => by omega))
  have G3' := ag_tr G3 (ag_mono G4' (fun x hx => by omega))
  refine hq hF n36 ⟨⟨R9.1, ⟨R9.2 0 (by omega), R9.2 1 (by omega), R9.2 2 (by omega), R9.2 3 (by omega), R9.2 4 (by omega), R9.2 5 (by omega), R9.2 6 (by omega), R9.2 7 (by omega), R9.2 8 (by omega)⟩, co_st_ag G5' (by omega) co16, od_st_ag G6' (by omega) od20, od_st_ag G7' (by omega) od24, s36⟩, to_st_ag G3' (fun b _ _ => by omega) st6, re_n_ag G4' (fun j _ => by omega) (fun s _ _ => by omega) re12, pl_st_ag G8' (fun j _ => by omega) pl28, se_n_ag G9 (fun j _ => by omega) se32, by rw [(G3' 34 (by omega)).1]; exact im6.1, by rw [(G3' 5 (by omega)).2.2.2]; exact nl6.1, by rw [(G3' 5 (by omega)).2.2.2]; exact nl6.2⟩ (tz_ag G3' (by omega) z6) (fun k => by rw [(G3' 34 (by omega)).2.2.2]; exact im6.2 k)
end
end

section
section
variable {g : ax_G} {Ret : Option Value → ax_H → Prop} {h : ax_H} {m : Nat}
/-! the reference's object -/
def moN (m j : Nat) (h : ax_H) : Prop := (ax_s h m).1 = 10 ∧ h.1 = m + 1 + j ∧ (∀ i q, i < j → mo_tab[i]? = some q → ax_r h m q.1 = some (m + 1 + i) ∧ ax_s h (m + 1 + i) = q.2) ∧ ∀ i, i < j → ∀ k, ax_i h (m + 1 + i) k = 0
theorem mo_dis : ∀ i, i < 25 → ∀ j, j < 25 → i ≠ j → (mo_tab.getD i (0, 0, 0)).1 ≠ (mo_tab.getD j (0, 0, 0)).1 := by decide
theorem mo_lt {i : Nat} {q : Nat × Nat × Nat} (h : mo_tab[i]? = some q) : i < 25 ∧ mo_tab.getD i (0, 0, 0) = q := ⟨(List.getElem?_eq_some_iff.mp h).1, by rw [List.getD_eq_getElem?_getD, h]; rfl⟩
theorem mo_step {j f kd ln : Nat} (a : moN m j h) (hq : mo_tab[j]? = some (f, kd, ln)) : (ax_s (ax_nw h kd ln) m).1 = 10 ∧ moN m (j + 1) (ax_pr (ax_nw h kd ln) m f (some h.1)) ∧ ag (fun b => b < m) h (ax_pr (ax_nw h kd ln) m f (some h.1)) := by
  obtain ⟨a1, a2, a3, a4⟩ := a
  have k : (ax_s (ax_nw h kd ln) m).1 = 10 := by rw [as_nw, if_neg (by omega)]; exact a1
  refine ⟨k, ⟨k, by show h.1 + 1 = _; omega, fun i q hi hiq => ?_, fun i hi k => ?_⟩, ag_tr (ag_nw (by omega)) (ag_pr (by omega))⟩
  · by_cases e : i = j
    · subst e
      have eq : q = (f, kd, ln) := Option.some.inj (hiq.symm.trans hq)
      subst eq
      exact ⟨by rw [ar_pr, if_pos ⟨rfl, rfl⟩, a2], by rw [as_pr, as_nw, if_pos a2.symm]⟩
    · have h1 := mo_lt hiq
      have h2 := mo_lt hq
      have hd := mo_dis i h1.1 j h2.1 e
      rw [h1.2, h2.2] at hd
      obtain ⟨b1, b2⟩ := a3 i q (by omega) hiq
      exact ⟨by rw [ar_pr, if_neg (fun z => hd z.2), ar_nw, if_neg (by omega)]; exact b1, by rw [as_pr, as_nw, if_neg (by omega)]; exact b2⟩
  · rw [ai_pr, ai_nw]
    split
    · rfl
    · exact a4 i (by omega) k
theorem c_init10 (hn : h.1 = m + 1) (ha : m < 900000) (hs : (ax_s h m).1 = 10) (hq : ∀ h', ag (fun b => b < m) h h' → h'.1 = m + 26 → mo_st h' m → (∀ j, j < 25 → ∀ k, ax_i h' (m + 1 + j) k = if j = 3 ∧ k = 0 then -1 else 0) → Ret none h') : mX10_init g [.ref m] h Ret := by
  have M0 : moN m 0 h := ⟨hs, hn, fun i q hi => absurd hi (Nat.not_lt_zero i), fun i hi => absurd hi (Nat.not_lt_zero i)⟩
  have G0 : ag (fun b => b < m) h h := ag_rf
  refine uX10_init (fun A hA => vX10_init_0 hA ⟨by decide, ?_⟩)
  obtain ⟨k1, M1, G1⟩ := mo_step M0 (show mo_tab[0]? = some (1, 12, 2400) from rfl)
  refine ⟨by decide, ⟨by have := M0.2.1; omega, by decide, by decide, by decide⟩, k1, ?_⟩
  revert M1 G1
  generalize ax_pr (ax_nw h 12 2400) m 1 (some h.1) = hh1
  intro M1 G1
  replace G1 := ag_tr G0 G1
  clear M0 G0 k1
  obtain ⟨k2, M2, G2⟩ := mo_step M1 (show mo_tab[1]? = some (2, 11, 4) from rfl)
  refine ⟨by decide, ⟨by have := M1.2.1; omega, by decide, by decide, by decide⟩, k2, ?_⟩
  revert M2 G2
  generalize ax_pr (ax_nw hh1 11 4) m 2 (some hh1.1) = hh2
  intro M2 G2
  replace G2 := ag_tr G1 G2
  clear M1 G1 k2
  obtain ⟨k3, M3, G3⟩ := mo_step M2 (show mo_tab[2]? = some (3, 11, 4) from rfl)
  refine ⟨by decide, ⟨by have := M2.2.1; omega, by decide, by decide, by decide⟩, k3, ?_⟩
  revert M3 G3
  generalize ax_pr (ax_nw hh2 11 4) m 3 (some hh2.1) = hh3
  intro M3 G3
  replace G3 := ag_tr G2 G3
  clear M2 G2 k3
  obtain ⟨k4, M4, G4⟩ := mo_step M3 (show mo_tab[3]? = some (4, 11, 4) from rfl)
  refine ⟨by decide, ⟨by have := M3.2.1; omega, by decide, by decide, by decide⟩, k4, ?_⟩
  revert M4 G4
  generalize ax_pr (ax_nw hh3 11 4) m 4 (some hh3.1) = hh4
  intro M4 G4
  replace G4 := ag_tr G3 G4
  clear M3 G3 k4
  refine vX10_init_34 hA ?_
  obtain ⟨k5, M5, G5⟩ := mo_step M4 (show mo_tab[4]? = some (5, 11, 20) from rfl)
  refine ⟨by decide, ⟨by have := M4.2.1; omega, by decide, by decide, by decide⟩, k5, ?_⟩
  revert M5 G5
  generalize ax_pr (ax_nw hh4 11 20) m 5 (some hh4.1) = hh5
  intro M5 G5
  replace G5 := ag_tr G4 G5
  clear M4 G4 k5
  obtain ⟨k6, M6, G6⟩ := mo_step M5 (show mo_tab[5]? = some (6, 11, 1312) from rfl)
  refine ⟨by decide, ⟨by have := M5.2.1; omega, by decide, by decide, by decide⟩, k6, ?_⟩
  revert M6 G6
  generalize ax_pr (ax_nw hh5 11 1312) m 6 (some hh5.1) = hh6
  intro M6 G6
  replace G6 := ag_tr G5 G6
  clear M5 G5 k6
  obtain ⟨k7, M7, G7⟩ := mo_step M6 (show mo_tab[6]? = some (7, 11, 120) from rfl)
  refine ⟨by decide, ⟨by have := M6.2.1; omega, by decide, by decide, by decide⟩, k7, ?_⟩
  revert M7 G7
  generalize ax_pr (ax_nw hh6 11 120) m 7 (some hh6.1) = hh7
  intro M7 G7
  replace G7 := ag_tr G6 G7
  clear M6 G6 k7
  obtain ⟨k8, M8, G8⟩ := mo_step M7 (show mo_tab[7]? = some (8, 11, 152) from rfl)
  refine ⟨by decide, ⟨by have := M7.2.1; omega, by decide, by decide, by decide⟩, k8, ?_⟩
  revert M8 G8
  generalize ax_pr (ax_nw hh7 11 152) m 8 (some hh7.1) = hh8
  intro M8 G8
  replace G8 := ag_tr G7 G8
  clear M7 G7 k8
  refine vX10_init_68 hA ?_
  obtain ⟨k9, M9, G9⟩ := mo_step M8 (show mo_tab[8]? = some (9, 11, 136) from rfl)
  refine ⟨by decide, ⟨by have := M8.2.1; omega, by decide, by decide, by decide⟩, k9, ?_⟩
  revert M9 G9
  generalize ax_pr (ax_nw hh8 11 136) m 9 (some hh8.1) = hh9
  intro M9 G9
  replace G9 := ag_tr G8 G9
  clear M8 G8 k9
  obtain ⟨k10, M10, G10⟩ := mo_step M9 (show mo_tab[9]? = some (10, 11, 152) from rfl)
  refine ⟨by decide, ⟨by have := M9.2.1; omega, by decide, by decide, by decide⟩, k10, ?_⟩
  revert M10 G10
  generalize ax_pr (ax_nw hh9 11 152) m 10 (some hh9.1) = hh10
  intro M10 G10
  replace G10 := ag_tr G9 G10
  clear M9 G9 k10
  obtain ⟨k11, M11, G11⟩ := mo_step M10 (show mo_tab[10]? = some (20, 11, 164) from rfl)
  refine ⟨by decide, ⟨by have := M10.2.1; omega, by decide, by decide, by decide⟩, k11, ?_⟩
  revert M11 G11
  generalize ax_pr (ax_nw hh10 11 164) m 20 (some hh10.1) = hh11
  intro M11 G11
  replace G11 := ag_tr G10 G11
  clear M10 G10 k11
  obtain ⟨k12, M12, G12⟩ := mo_step M11 (show mo_tab[11]? = some (21, 11, 3) from rfl)
  refine ⟨by decide, ⟨by have := M11.2.1; omega, by decide, by decide, by decide⟩, k12, ?_⟩
  revert M12 G12
  generalize ax_pr (ax_nw hh11 11 3) m 21 (some hh11.1) = hh12
  intro M12 G12
  replace G12 := ag_tr G11 G12
  clear M11 G11 k12
  refine vX10_init_102 hA ?_
  obtain ⟨k13, M13, G13⟩ := mo_step M12 (show mo_tab[12]? = some (28, 11, 6) from rfl)
  refine ⟨by decide, ⟨by have := M12.2.1; omega, by decide, by decide, by decide⟩, k13, ?_⟩
  revert M13 G13
  generalize ax_pr (ax_nw hh12 11 6) m 28 (some hh12.1) = hh13
  intro M13 G13
  replace G13 := ag_tr G12 G13
  clear M12 G12 k13
  obtain ⟨k14, M14, G14⟩ := mo_step M13 (show mo_tab[13]? = some (29, 11, 72) from rfl)
  refine ⟨by decide, ⟨by have := M13.2.1; omega, by decide, by decide, by decide⟩, k14, ?_⟩
  revert M14 G14
  generalize ax_pr (ax_nw hh13 11 72) m 29 (some hh13.1) = hh14
  intro M14 G14
  replace G14 := ag_tr G13 G14
  clear M13 G13 k14
  obtain ⟨k15, M15, G15⟩ := mo_step M14 (show mo_tab[14]? = some (30, 11, 72) from rfl)
  refine ⟨by decide, ⟨by have := M14.2.1; omega, by decide, by decide, by decide⟩, k15, ?_⟩
  revert M15 G15
  generalize ax_pr (ax_nw hh14 11 72) m 30 (some hh14.1) = hh15
  intro M15 G15
  replace G15 := ag_tr G14 G15
  clear M14 G14 k15
  obtain ⟨k16, M16, G16⟩ := mo_step M15 (show mo_tab[15]? = some (31, 11, 12) from rfl)
  refine ⟨by decide, ⟨by have := M15.2.1; omega, by decide, by decide, by decide⟩, k16, ?_⟩
  revert M16 G16
  generalize ax_pr (ax_nw hh15 11 12) m 31 (some hh15.1) = hh16
  intro M16 G16
  replace G16 := ag_tr G15 G16
  clear M15 G15 k16
  refine vX10_init_134 hA ?_
  obtain ⟨k17, M17, G17⟩ := mo_step M16 (show mo_tab[16]? = some (40, 11, 12) from rfl)
  refine ⟨by decide, ⟨by have := M16.2.1; omega, by decide, by decide, by decide⟩, k17, ?_⟩
  revert M17 G17
  generalize ax_pr (ax_nw hh16 11 12) m 40 (some hh16.1) = hh17
  intro M17 G17
  replace G17 := ag_tr G16 G17
  clear M16 G16 k17
  obtain ⟨k18, M18, G18⟩ := mo_step M17 (show mo_tab[17]? = some (43, 14, 28672) from rfl)
  refine ⟨by decide, ⟨by have := M17.2.1; omega, by decide, by decide, by decide⟩, k18, ?_⟩
  revert M18 G18
  generalize ax_pr (ax_nw hh17 14 28672) m 43 (some hh17.1) = hh18
  intro M18 G18
  replace G18 := ag_tr G17 G18
  clear M17 G17 k18
  obtain ⟨k19, M19, G19⟩ := mo_step M18 (show mo_tab[18]? = some (44, 11, 6) from rfl)
  refine ⟨by decide, ⟨by have := M18.2.1; omega, by decide, by decide, by decide⟩, k19, ?_⟩
  revert M19 G19
  generalize ax_pr (ax_nw hh18 11 6) m 44 (some hh18.1) = hh19
  intro M19 G19
  replace G19 := ag_tr G18 G19
  clear M18 G18 k19
  obtain ⟨k20, M20, G20⟩ := mo_step M19 (show mo_tab[19]? = some (48, 11, 8) from rfl)
  refine ⟨by decide, ⟨by have := M19.2.1; omega, by decide, by decide, by decide⟩, k20, ?_⟩
  revert M20 G20
  generalize ax_pr (ax_nw hh19 11 8) m 48 (some hh19.1) = hh20
  intro M20 G20
  replace G20 := ag_tr G19 G20
  clear M19 G19 k20
  refine vX10_init_167 hA ?_
  obtain ⟨k21, M21, G21⟩ := mo_step M20 (show mo_tab[20]? = some (52, 11, 3) from rfl)
  refine ⟨by decide, ⟨by have := M20.2.1; omega, by decide, by decide, by decide⟩, k21, ?_⟩
  revert M21 G21
  generalize ax_pr (ax_nw hh20 11 3) m 52 (some hh20.1) = hh21
  intro M21 G21
  replace G21 := ag_tr G20 G21
  clear M20 G20 k21
  obtain ⟨k22, M22, G22⟩ := mo_step M21 (show mo_tab[21]? = some (53, 11, 3) from rfl)
  refine ⟨by decide, ⟨by have := M21.2.1; omega, by decide, by decide, by decide⟩, k22, ?_⟩
  revert M22 G22
  generalize ax_pr (ax_nw hh21 11 3) m 53 (some hh21.1) = hh22
  intro M22 G22
  replace G22 := ag_tr G21 G22
  clear M21 G21 k22
  obtain ⟨k23, M23, G23⟩ := mo_step M22 (show mo_tab[22]? = some (54, 11, 60) from rfl)
  refine ⟨by decide, ⟨by have := M22.2.1; omega, by decide, by decide, by decide⟩, k23, ?_⟩
  revert M23 G23
  generalize ax_pr (ax_nw hh22 11 60) m 54 (some hh22.1) = hh23
  intro M23 G23
  replace G23 := ag_tr G22 G23
  clear M22 G22 k23
  obtain ⟨k24, M24, G24⟩ := mo_step M23 (show mo_tab[23]? = some (55, 11, 6) from rfl)
  refine ⟨by decide, ⟨by have := M23.2.1; omega, by decide, by decide, by decide⟩, k24, ?_⟩
  revert M24 G24
  generalize ax_pr (ax_nw hh23 11 6) m 55 (some hh23.1) = hh24
  intro M24 G24
  replace G24 := ag_tr G23 G24
  clear M23 G23 k24
  obtain ⟨k25, M25, G25⟩ := mo_step M24 (show mo_tab[24]? = some (58, 13, 3) from rfl)
  refine ⟨by decide, ⟨by have := M24.2.1; omega, by decide, by decide, by decide⟩, k25, ?_⟩
  revert M25 G25
  generalize ax_pr (ax_nw hh24 13 3) m 58 (some hh24.1) = hh25
  intro M25 G25
  replace G25 := ag_tr G24 G25
  clear M24 G24 k25
  refine vX10_init_204 hA ?_
  have st : mo_st hh25 m := ⟨M25.1, fun j q hj => M25.2.2.1 j q (mo_lt hj).1 hj⟩
  obtain ⟨r4, s4⟩ := st.2 3 (4, 11, 4) rfl
  refine ⟨st.1, m + 4, r4, by rw [s4], by rw [s4]; exact vp_in_nI (n := 0) (N := 4) (by decide) (by decide), ⟨by decide, by decide⟩, hq _ (ag_tr G25 (ag_pi (by omega))) (by show hh25.1 = _; rw [M25.2.1]) (mo_st_same (sm_pi (F := fun a => a = m + 4) rfl) st) (fun j hj k => ?_)⟩
  rw [ai_pi]
  by_cases e : j = 3 ∧ k = 0
  · rw [if_pos e, if_pos (by omega)]
  · rw [if_neg e, if_neg (by omega)]; exact M25.2.2.2 j hj k
end
end

section
section
variable {g : ax_G} {Ret : Option Value → ax_H → Prop} {h : ax_H} {z : Nat → Nat} {DD : Nat → rD} {N : Nat → Nat → Nat} {C : Nat → Nat → Nat → Nat → Int32} {x1 x2 x3 x4 : Int32}
/-! no such republic: the class -/
theorem no_abs {k n : Nat} {x : Int32} (hn : n ≤ 2) (hx : sp_in x n = false) (hk : k < n) (ex : x = nI k) : False := by
  rw [ex, sp_in_nI (by omega) hk] at hx; cases hx
theorem no_begun {x : Int32} (a : tc h z DD N C) (hx : sp_in x (z 0) = false) (hq : Ret (some .null) h) : mX9_begun g [.ref 0, .int x] h Ret := q_begun a (fun _ => hq) (fun k hk ex => (no_abs (a.2.2.2.2.1 0 (by decide)) hx hk ex).elim)
theorem no_rep {x : Int32} (a : tc h z DD N C) (hx : sp_in x (z 0) = false) (hq : Ret (some .null) h) : mX8_republicAt g [.ref 1, .int x] h Ret := c_republicAt a.2.2.1 (fun _ => hq) (fun k hk ex => (no_abs (a.2.2.2.2.1 0 (by decide)) hx hk ex).elim)
theorem no_hand {x : Int32} (a : mo_st h 77) (T : tm_at h 77 0 z DD N C) (K : tk z DD N C) (hx : sp_in x (z 0) = false) (hq : Ret (some (.int 0)) h) : mX10_hand g [.ref 77, .int x] h Ret := q_hand a T K (fun _ => hq) (fun k hk ex => (no_abs (K.1 0 (by decide)) hx hk ex).elim)
theorem no_handOne {x y : Int32} (a : mo_st h 77) (T : tm_at h 77 0 z DD N C) (K : tk z DD N C) (hx : sp_in x (z 0) = false) (hq : ∀ h', ax_same md_F h h' → Ret (some (.int 0)) h') : mX10_handOne g [.ref 77, .int x, .int y] h Ret := q_handOne a T K (fun h' hs _ => hq h' hs) (fun k p hk ex => (no_abs (K.1 0 (by decide)) hx hk ex).elim)
theorem br0 {P Q : Prop} (h : P) : ((0 : Int32) = 0 → P) ∧ (¬ ((0 : Int32) = 0) → Q) := ⟨fun _ => h, fun q => absurd rfl q⟩
theorem br0' {P Q : Prop} (h : P) : (¬ ((0 : Int32) = 0) → Q) ∧ ((0 : Int32) = 0 → P) := ⟨fun q => absurd rfl q, fun _ => h⟩
theorem br2 {r : Int32} {P Q : Prop} (h : P) (k : Q) : (r = 0 → P) ∧ (¬ (r = 0) → Q) := ⟨fun _ => h, fun _ => k⟩
theorem br2' {r : Int32} {P Q : Prop} (h : P) (k : Q) : (¬ (r = 0) → Q) ∧ (r = 0 → P) := ⟨fun _ => k, fun _ => h⟩
theorem no9_republic (a : tc h z DD N C) (hx : sp_in x1 (z 0) = false) (hq : Ret (some (.int (-1000))) h) : mX9_republic g [.ref 0, .int x1, .int x2] h Ret := eX9_republic ⟨a.1.1, no_begun a hx (Or.inr ⟨rfl, hq⟩)⟩
theorem no9_person (a : tc h z DD N C) (hx : sp_in x1 (z 0) = false) (hq : Ret (some (.int (-2))) h) : mX9_person g [.ref 0, .int x1, .int x2, .int x3] h Ret := eX9_person ⟨a.1.1, _, a.1.2.1.1, a.2.2.1.1.1, no_rep a hx (Or.inr ⟨rfl, hq⟩)⟩
theorem no9_odds (a : tc h z DD N C) (hx : sp_in x1 (z 0) = false) (hq : Ret (some (.int (-1))) h) : mX9_odds g [.ref 0, .int x1, .int x2, .int x3] h Ret := eX9_odds ⟨a.1.1, no_begun a hx (Or.inr ⟨rfl, hq⟩)⟩
theorem no9_value (a : tc h z DD N C) (hx : sp_in x1 (z 0) = false) (hq : Ret (some (.int (-1000000))) h) : mX9_value g [.ref 0, .int x1, .int x2, .int x3] h Ret := eX9_value ⟨a.1.1, no_begun a hx (Or.inr ⟨rfl, hq⟩)⟩
theorem no9_purse (a : tc h z DD N C) (hx : sp_in x1 (z 0) = false) (hq : Ret (some (.int (-1000000))) h) : mX9_purse g [.ref 0, .int x1, .int x2, .int x3, .int x4] h Ret := uX9_purse (fun A hA => vX9_purse_0 hA ⟨a.1.1, no_begun a hx (Or.inr ⟨rfl, a.1.1, _, a.1.2.1.1, a.2.2.1.1.1, c_linesAt (s0 := 1) a.2.2.1 (by decide) (by decide) (fun _ => Or.inr ⟨rfl, hq⟩) (fun k hk ex => Or.inl ⟨_, rfl, hq⟩)⟩)⟩)
theorem no9_likely (a : tc h z DD N C) (hx : sp_in x1 (z 0) = false) (hq : Ret (some (.long (-1))) h) : mX9_likely g [.ref 0, .int x1, .int x2, .int x3, .int x4] h Ret := uX9_likely (fun A hA => vX9_likely_0 hA ⟨a.1.1, no_begun a hx (Or.inr ⟨rfl, a.1.1, _, a.1.2.1.1, a.2.2.1.1.1, c_linesAt (s0 := 1) a.2.2.1 (by decide) (by decide) (fun _ => Or.inr ⟨rfl, hq⟩) (fun k hk ex => Or.inl ⟨_, rfl, hq⟩)⟩)⟩)
theorem no9_drawn (a : tc h z DD N C) (hx : sp_in x1 (z 0) = false) (hq : Ret (some (.int (-1000000))) h) : mX9_drawn g [.ref 0, .int x1, .int x2, .int x3, .int x4] h Ret := uX9_drawn (fun A hA => vX9_drawn_0 hA ⟨a.1.1, no_begun a hx (Or.inr ⟨rfl, hq⟩)⟩)
theorem no9_mean (a : tc h z DD N C) (hx : sp_in x1 (z 0) = false) (hq : Ret (some (.int (-1000000))) h) : mX9_mean g [.ref 0, .int x1, .int x2, .int x3] h Ret := eX9_mean ⟨a.1.1, no_begun a hx (Or.inr ⟨rfl, hq⟩)⟩
theorem no9_gain (a : tc h z DD N C) (hx : sp_in x1 (z 0) = false) (hq : Ret (some (.int (-1000000))) h) : mX9_gain g [.ref 0, .int x1, .int x2, .int x3, .int x4] h Ret := eX9_gain ⟨a.1.1, no_begun a hx (Or.inr ⟨rfl, hq⟩)⟩
theorem no9_wish (a : tc h z DD N C) (hx : sp_in x1 (z 0) = false) (hq : Ret (some (.int (-1))) h) : mX9_wish g [.ref 0, .int x1, .int x2] h Ret := eX9_wish ⟨a.1.1, no_begun a hx (Or.inr ⟨rfl, hq⟩)⟩
theorem no9_buyer (a : tc h z DD N C) (hx : sp_in x1 (z 0) = false) (hq : Ret (some (.int (-1000000))) h) : mX9_buyer g [.ref 0, .int x1, .int x2] h Ret := uX9_buyer (fun A hA => vX9_buyer_0 hA ⟨a.1.1, no_begun a hx (Or.inr ⟨rfl, hq⟩)⟩)
theorem no9_promise (a : tc h z DD N C) (hx : sp_in x1 (z 0) = false) (hq : Ret (some (.int (-1000000))) h) : mX9_promise g [.ref 0, .int x1, .int x2, .int x3, .int x4] h Ret := uX9_promise (fun A hA => vX9_promise_0 hA ⟨a.1.1, no_begun a hx (Or.inr ⟨rfl, hq⟩)⟩)
theorem no9_two (a : tc h z DD N C) (hx : sp_in x1 (z 0) = false) (hq : Ret (some (.int (-1000000))) h) : mX9_two g [.ref 0, .int x1, .int x2, .int x3, .int x4] h Ret := eX9_two ⟨a.1.1, _, a.1.2.1.1, a.2.2.1.1.1, no_rep a hx (Or.inr ⟨rfl, hq⟩)⟩
theorem no9_shift (a : tc h z DD N C) (hx : sp_in x1 (z 0) = false) (hq : Ret (some (.int (-1000000))) h) : mX9_shift g [.ref 0, .int x1, .int x2, .int x3] h Ret := uX9_shift (fun A hA => vX9_shift_0 hA ⟨a.1.1, no_begun a hx (Or.inr ⟨rfl, hq⟩)⟩)
theorem no9_feud (a : tc h z DD N C) (hx : sp_in x1 (z 0) = false) (hq : Ret (some (.int (-1))) h) : mX9_feud g [.ref 0, .int x1, .int x2] h Ret := uX9_feud (fun A hA => vX9_feud_0 hA ⟨a.1.1, no_begun a hx (Or.inr ⟨rfl, hq⟩)⟩)
theorem no9_plan (a : tc h z DD N C) (hx : sp_in x1 (z 0) = false) (hq : Ret (some (.int (-1000000))) h) : mX9_plan g [.ref 0, .int x1, .int x2, .int x3] h Ret := eX9_plan ⟨a.1.1, no_begun a hx (Or.inr ⟨rfl, a.1.1, _, a.1.2.1.1, a.2.2.1.1.1, c_linesAt (s0 := 2) a.2.2.1 (by decide) (by decide) (fun _ => Or.inr ⟨rfl, hq⟩) (fun k hk ex => Or.inl ⟨_, rfl, hq⟩)⟩)⟩
theorem no9_holds (a : tc h z DD N C) (hx : sp_in x1 (z 0) = false) (hq : Ret (some (.int (-1000))) h) : mX9_holds g [.ref 0, .int x1, .int x2, .int x3] h Ret := uX9_holds (fun A hA => vX9_holds_0 hA ⟨a.1.1, _, a.1.2.1.1, a.2.2.1.1.1, no_rep a hx (Or.inr ⟨rfl, a.1.1, _, a.1.2.1.1, a.2.2.1.1.1, c_linesAt (s0 := 3) a.2.2.1 (by decide) (by decide) (fun _ => Or.inr ⟨rfl, hq⟩) (fun k hk ex => Or.inl ⟨_, rfl, hq⟩)⟩)⟩)
theorem no9_clock (a : tc h z DD N C) (hx : sp_in x1 (z 0) = false) (hq : Ret (some (.int (-1))) h) : mX9_clock g [.ref 0, .int x1, .int x2, .int x3, .int x4] h Ret := eX9_clock ⟨a.1.1, _, a.1.2.1.1, a.2.2.1.1.1, no_rep a hx (Or.inr ⟨rfl, a.1.1, _, a.1.2.1.1, a.2.2.1.1.1, c_linesAt (s0 := 3) a.2.2.1 (by decide) (by decide) (fun _ => Or.inr ⟨rfl, hq⟩) (fun k hk ex => Or.inl ⟨_, rfl, hq⟩)⟩)⟩
theorem no9_fits (a : tc h z DD N C) (hx : sp_in x1 (z 0) = false) (hq : Ret (some (.int (-2))) h) : mX9_fits g [.ref 0, .int x1, .int x2, .int x3] h Ret := eX9_fits ⟨a.1.1, no_begun a hx (Or.inr ⟨rfl, a.1.1, _, a.1.2.1.1, a.2.2.1.1.1, c_linesAt (s0 := 4) a.2.2.1 (by decide) (by decide) (fun _ => Or.inr ⟨rfl, hq⟩) (fun k hk ex => Or.inl ⟨_, rfl, hq⟩)⟩)⟩
theorem no9_reign (a : tc h z DD N C) (hx : sp_in x1 (z 0) = false) (hq : Ret (some (.int (-1000000))) h) : mX9_reign g [.ref 0, .int x1, .int x2, .int x3] h Ret := uX9_reign (fun A hA => vX9_reign_0 hA ⟨a.1.1, no_begun a hx (Or.inr ⟨rfl, hq⟩)⟩)
theorem no9_ruling (a : tc h z DD N C) (hx : sp_in x1 (z 0) = false) (hq : Ret (some (.int (-1000000))) h) : mX9_ruling g [.ref 0, .int x1, .int x2] h Ret := uX9_ruling (fun A hA => vX9_ruling_0 hA ⟨a.1.1, no_begun a hx (Or.inr ⟨rfl, hq⟩)⟩)
theorem no9_trust (a : tc h z DD N C) (hx : sp_in x1 (z 0) = false) (hq : Ret (some (.int (-1))) h) : mX9_trust g [.ref 0, .int x1, .int x2, .int x3] h Ret := uX9_trust (fun A hA => vX9_trust_0 hA ⟨a.1.1, no_begun a hx (Or.inr ⟨rfl, a.1.1, _, a.1.2.1.1, a.2.2.1.1.1, c_linesAt (s0 := 3) a.2.2.1 (by decide) (by decide) (fun _ => Or.inr ⟨rfl, hq⟩) (fun k hk ex => Or.inl ⟨_, rfl, hq⟩)⟩)⟩)
theorem no9_tight (a : tc h z DD N C) (hx : sp_in x1 (z 0) = false) (hq : Ret (some (.int (-1))) h) : mX9_tight g [.ref 0, .int x1, .int x2] h Ret := uX9_tight (fun A hA => vX9_tight_0 hA ⟨a.1.1, _, a.1.2.1.1, a.2.2.1.1.1, no_rep a hx (Or.inr ⟨rfl, a.1.1, _, a.1.2.1.1, a.2.2.1.1.1, c_linesAt (s0 := 3) a.2.2.1 (by decide) (by decide) (fun _ => Or.inr ⟨rfl, hq⟩) (fun k hk ex => Or.inl ⟨_, rfl, hq⟩)⟩)⟩)
theorem no9_free (a : tc h z DD N C) (hx : sp_in x1 (z 0) = false) (hq : Ret (some (.int (-1000000))) h) : mX9_free g [.ref 0, .int x1, .int x2, .int x3] h Ret := eX9_free ⟨a.1.1, no_begun a hx (Or.inr ⟨rfl, a.1.1, _, a.1.2.1.1, a.2.2.1.1.1, c_linesAt (s0 := 2) a.2.2.1 (by decide) (by decide) (fun _ => Or.inr ⟨rfl, hq⟩) (fun k hk ex => Or.inl ⟨_, rfl, hq⟩)⟩)⟩
theorem no9_expected {x5 : Int32} (a : tc h z DD N C) (hx : sp_in x1 (z 0) = false) (hq : Ret (some (.int 0)) h) : mX9_expected g [.ref 0, .int x1, .int x2, .int x3, .int x5] h Ret := uX9_expected (fun A hA => vX9_expected_0 hA ⟨a.1.1, no_begun a hx (Or.inr ⟨rfl, Or.inl rfl, hq⟩)⟩)
theorem no9_hope (a : tc h z DD N C) (hx : sp_in x1 (z 0) = false) (hq : Ret (some (.long (-1000000))) h) : mX9_hope g [.ref 0, .int x1, .int x2, .int x3, .int x4] h Ret := by
  refine eX9_hope ⟨a.1.1, no9_expected a hx ⟨_, rfl, ?_⟩⟩
  first | exact br0 hq | exact br0' hq
theorem no9_doom (a : tc h z DD N C) (hx : sp_in x1 (z 0) = false) (hq : Ret (some (.long (-1))) h) : mX9_doom g [.ref 0, .int x1, .int x2, .int x3, .int x4] h Ret := by
  refine eX9_doom ⟨a.1.1, no9_expected a hx ⟨_, rfl, ?_⟩⟩
  first | exact br0 hq | exact br0' hq
/-! no such republic: the reference -/
theorem no10_republic (a : tc h z DD N C) (hx : sp_in x1 (z 0) = false) (hq : ∀ h', ax_same md_F h h' → Ret (some (.int (-1000))) h') : mX10_republic g [.ref 77, .int x1, .int x2] h Ret := by
  have K := a.2.2.2.2
  obtain ⟨a1, T1, hs1⟩ := q_code (v := 0) a.2.1 a.2.2.2.1
  refine eX10_republic ⟨a.2.1.1, ?_⟩
  refine ⟨a1.1, no_hand a1 T1 K hx ⟨_, rfl, ?_⟩⟩
  first | exact br0 (hq _ hs1) | exact br0' (hq _ hs1)
theorem no10_person (a : tc h z DD N C) (hx : sp_in x1 (z 0) = false) (hq : ∀ h', ax_same md_F h h' → Ret (some (.int (-2))) h') : mX10_person g [.ref 77, .int x1, .int x2, .int x3] h Ret := by
  have K := a.2.2.2.2
  obtain ⟨a1, T1, hs1⟩ := q_code (v := 0) a.2.1 a.2.2.2.1
  refine eX10_person ⟨a.2.1.1, ?_⟩
  refine ⟨a1.1, no_handOne a1 T1 K hx (fun h' hs => ⟨_, rfl, ?_⟩)⟩
  first | exact br0 (hq _ (sm_tr hs1 hs)) | exact br0' (hq _ (sm_tr hs1 hs))
theorem no10_odds (a : tc h z DD N C) (hx : sp_in x1 (z 0) = false) (hq : ∀ h', ax_same md_F h h' → Ret (some (.int (-1))) h') : mX10_odds g [.ref 77, .int x1, .int x2, .int x3] h Ret := by
  have K := a.2.2.2.2
  obtain ⟨a1, T1, hs1⟩ := q_code (v := 0) a.2.1 a.2.2.2.1
  refine eX10_odds ⟨a.2.1.1, ?_⟩
  refine ⟨a1.1, no_hand a1 T1 K hx ⟨_, rfl, ?_⟩⟩
  first | exact br0 (hq _ hs1) | exact br0' (hq _ hs1)
theorem no10_value (a : tc h z DD N C) (hx : sp_in x1 (z 0) = false) (hq : ∀ h', ax_same md_F h h' → Ret (some (.int (-1000000))) h') : mX10_value g [.ref 77, .int x1, .int x2, .int x3] h Ret := by
  have K := a.2.2.2.2
  obtain ⟨a1, T1, hs1⟩ := q_code (v := 0) a.2.1 a.2.2.2.1
  refine eX10_value ⟨a.2.1.1, ?_⟩
  refine ⟨a1.1, no_hand a1 T1 K hx ⟨_, rfl, ?_⟩⟩
  first | exact br0 (hq _ hs1) | exact br0' (hq _ hs1)
theorem no10_purse (a : tc h z DD N C) (hx : sp_in x1 (z 0) = false) (hq : ∀ h', ax_same md_F h h' → Ret (some (.int (-1000000))) h') : mX10_purse g [.ref 77, .int x1, .int x2, .int x3, .int x4] h Ret := by
  have K := a.2.2.2.2
  obtain ⟨a1, T1, hs1⟩ := q_code (v := 0) a.2.1 a.2.2.2.1
  refine eX10_purse ⟨a.2.1.1, ?_⟩
  refine ⟨a1.1, no_hand a1 T1 K hx ⟨_, rfl, ?_⟩⟩
  first | exact br0 (hq _ hs1) | exact br0' (hq _ hs1)
theorem no10_likely (a : tc h z DD N C) (hx : sp_in x1 (z 0) = false) (hq : ∀ h', ax_same md_F h h' → Ret (some (.long (-1))) h') : mX10_likely g [.ref 77, .int x1, .int x2, .int x3, .int x4] h Ret := by
  have K := a.2.2.2.2
  obtain ⟨a1, T1, hs1⟩ := q_code (v := 0) a.2.1 a.2.2.2.1
  refine eX10_likely ⟨a.2.1.1, ?_⟩
  refine c_min ⟨_, rfl, ?_⟩
  first | refine br2 (hq _ hs1) ⟨a1.1, no_hand a1 T1 K hx ⟨_, rfl, ?_⟩⟩ | refine br2' (hq _ hs1) ⟨a1.1, no_hand a1 T1 K hx ⟨_, rfl, ?_⟩⟩
  first | exact br0 (hq _ hs1) | exact br0' (hq _ hs1)
theorem no10_drawn (a : tc h z DD N C) (hx : sp_in x1 (z 0) = false) (hq : ∀ h', ax_same md_F h h' → Ret (some (.int (-1000000))) h') : mX10_drawn g [.ref 77, .int x1, .int x2, .int x3, .int x4] h Ret := by
  have K := a.2.2.2.2
  obtain ⟨a1, T1, hs1⟩ := q_code (v := 0) a.2.1 a.2.2.2.1
  refine uX10_drawn (fun A hA => vX10_drawn_0 hA ⟨a.2.1.1, ?_⟩)
  refine c_min ⟨_, rfl, ?_⟩
  first | refine br2 (hq _ hs1) ⟨a1.1, no_hand a1 T1 K hx ⟨_, rfl, ?_⟩⟩ | refine br2' (hq _ hs1) ⟨a1.1, no_hand a1 T1 K hx ⟨_, rfl, ?_⟩⟩
  first | exact br0 (hq _ hs1) | exact br0' (hq _ hs1)
theorem no10_mean (a : tc h z DD N C) (hx : sp_in x1 (z 0) = false) (hq : ∀ h', ax_same md_F h h' → Ret (some (.int (-1000000))) h') : mX10_mean g [.ref 77, .int x1, .int x2, .int x3] h Ret := by
  have K := a.2.2.2.2
  obtain ⟨a1, T1, hs1⟩ := q_code (v := 0) a.2.1 a.2.2.2.1
  refine eX10_mean ⟨a.2.1.1, ?_⟩
  refine ⟨a1.1, no_handOne a1 T1 K hx (fun h' hs => ⟨_, rfl, ?_⟩)⟩
  first | exact br0 (hq _ (sm_tr hs1 hs)) | exact br0' (hq _ (sm_tr hs1 hs))
theorem no10_gain (a : tc h z DD N C) (hx : sp_in x1 (z 0) = false) (hq : ∀ h', ax_same md_F h h' → Ret (some (.int (-1000000))) h') : mX10_gain g [.ref 77, .int x1, .int x2, .int x3, .int x4] h Ret := by
  have K := a.2.2.2.2
  obtain ⟨a1, T1, hs1⟩ := q_code (v := 0) a.2.1 a.2.2.2.1
  refine eX10_gain ⟨a.2.1.1, ?_⟩
  refine ⟨a1.1, no_handOne a1 T1 K hx (fun h' hs => ⟨_, rfl, ?_⟩)⟩
  first | exact br0 (hq _ (sm_tr hs1 hs)) | exact br0' (hq _ (sm_tr hs1 hs))
theorem no10_wish (a : tc h z DD N C) (hx : sp_in x1 (z 0) = false) (hq : ∀ h', ax_same md_F h h' → Ret (some (.int (-1))) h') : mX10_wish g [.ref 77, .int x1, .int x2] h Ret := by
  have K := a.2.2.2.2
  obtain ⟨a1, T1, hs1⟩ := q_code (v := 0) a.2.1 a.2.2.2.1
  refine eX10_wish ⟨a.2.1.1, ?_⟩
  refine ⟨a1.1, no_hand a1 T1 K hx ⟨_, rfl, ?_⟩⟩
  first | exact br0 (hq _ hs1) | exact br0' (hq _ hs1)
theorem no10_buyer (a : tc h z DD N C) (hx : sp_in x1 (z 0) = false) (hq : ∀ h', ax_same md_F h h' → Ret (some (.int (-1000000))) h') : mX10_buyer g [.ref 77, .int x1, .int x2] h Ret := by
  have K := a.2.2.2.2
  obtain ⟨a1, T1, hs1⟩ := q_code (v := 0) a.2.1 a.2.2.2.1
  refine uX10_buyer (fun A hA => vX10_buyer_0 hA ⟨a.2.1.1, ?_⟩)
  refine c_min ⟨_, rfl, ?_⟩
  first | refine br2 (hq _ hs1) ⟨a1.1, no_hand a1 T1 K hx ⟨_, rfl, ?_⟩⟩ | refine br2' (hq _ hs1) ⟨a1.1, no_hand a1 T1 K hx ⟨_, rfl, ?_⟩⟩
  first | exact br0 (hq _ hs1) | exact br0' (hq _ hs1)
theorem no10_promise (a : tc h z DD N C) (hx : sp_in x1 (z 0) = false) (hq : ∀ h', ax_same md_F h h' → Ret (some (.int (-1000000))) h') : mX10_promise g [.ref 77, .int x1, .int x2, .int x3, .int x4] h Ret := by
  have K := a.2.2.2.2
  obtain ⟨a1, T1, hs1⟩ := q_code (v := 0) a.2.1 a.2.2.2.1
  refine uX10_promise (fun A hA => vX10_promise_0 hA ⟨a.2.1.1, ?_⟩)
  refine ⟨a1.1, no_handOne a1 T1 K hx (fun h' hs => ⟨_, rfl, ?_⟩)⟩
  first | exact br0 (hq _ (sm_tr hs1 hs)) | exact br0' (hq _ (sm_tr hs1 hs))
theorem no10_two (a : tc h z DD N C) (hx : sp_in x1 (z 0) = false) (hq : ∀ h', ax_same md_F h h' → Ret (some (.int (-1000000))) h') : mX10_two g [.ref 77, .int x1, .int x2, .int x3, .int x4] h Ret := by
  have K := a.2.2.2.2
  obtain ⟨a1, T1, hs1⟩ := q_code (v := 0) a.2.1 a.2.2.2.1
  refine eX10_two ⟨a.2.1.1, ?_⟩
  refine ⟨a1.1, no_handOne a1 T1 K hx (fun h' hs => ⟨_, rfl, ?_⟩)⟩
  first | exact br0 (hq _ (sm_tr hs1 hs)) | exact br0' (hq _ (sm_tr hs1 hs))
theorem no10_shift (a : tc h z DD N C) (hx : sp_in x1 (z 0) = false) (hq : ∀ h', ax_same md_F h h' → Ret (some (.int (-1000000))) h') : mX10_shift g [.ref 77, .int x1, .int x2, .int x3] h Ret := by
  have K := a.2.2.2.2
  obtain ⟨a1, T1, hs1⟩ := q_code (v := 0) a.2.1 a.2.2.2.1
  refine uX10_shift (fun A hA => vX10_shift_0 hA ⟨a.2.1.1, ?_⟩)
  refine c_min ⟨_, rfl, ?_⟩
  first | refine br2 (hq _ hs1) ⟨a1.1, no_handOne a1 T1 K hx (fun h' hs => ⟨_, rfl, ?_⟩)⟩ | refine br2' (hq _ hs1) ⟨a1.1, no_handOne a1 T1 K hx (fun h' hs => ⟨_, rfl, ?_⟩)⟩
  first | exact br0 (hq _ (sm_tr hs1 hs)) | exact br0' (hq _ (sm_tr hs1 hs))
theorem no10_feud (a : tc h z DD N C) (hx : sp_in x1 (z 0) = false) (hq : ∀ h', ax_same md_F h h' → Ret (some (.int (-1))) h') : mX10_feud g [.ref 77, .int x1, .int x2] h Ret := by
  have K := a.2.2.2.2
  obtain ⟨a1, T1, hs1⟩ := q_code (v := 0) a.2.1 a.2.2.2.1
  refine uX10_feud (fun A hA => vX10_feud_0 hA ⟨a.2.1.1, ?_⟩)
  refine c_min ⟨_, rfl, ?_⟩
  first | refine br2 (hq _ hs1) ⟨a1.1, no_hand a1 T1 K hx ⟨_, rfl, ?_⟩⟩ | refine br2' (hq _ hs1) ⟨a1.1, no_hand a1 T1 K hx ⟨_, rfl, ?_⟩⟩
  first | exact br0 (hq _ hs1) | exact br0' (hq _ hs1)
theorem no10_plan (a : tc h z DD N C) (hx : sp_in x1 (z 0) = false) (hq : ∀ h', ax_same md_F h h' → Ret (some (.int (-1000000))) h') : mX10_plan g [.ref 77, .int x1, .int x2, .int x3] h Ret := by
  have K := a.2.2.2.2
  obtain ⟨a1, T1, hs1⟩ := q_code (v := 0) a.2.1 a.2.2.2.1
  refine eX10_plan ⟨a.2.1.1, ?_⟩
  refine ⟨a1.1, c_mhasErrands a1 T1 K (fun h2 hs2 _ _ _ => ⟨_, rfl, ?_⟩)⟩
  have hs3 : ax_same md_F (ax_pi h 77 0 0) h2 := sm_mono hs2.1 (fun x q => q.elim (fun e => Or.inl e) False.elim)
  have a2 := mo_st_same hs3 a1
  have T2 : tm_at h2 77 0 z DD N C := tm_at_same hs3 (fun j hj q => by unfold md_F at q; omega) T1
  first | refine br2 (hq _ (sm_tr hs1 hs3)) ⟨a2.1, no_hand a2 T2 K hx ⟨_, rfl, ?_⟩⟩ | refine br2' (hq _ (sm_tr hs1 hs3)) ⟨a2.1, no_hand a2 T2 K hx ⟨_, rfl, ?_⟩⟩
  first | exact br0 (hq _ (sm_tr hs1 hs3)) | exact br0' (hq _ (sm_tr hs1 hs3))
theorem no10_holds (a : tc h z DD N C) (hx : sp_in x1 (z 0) = false) (hq : ∀ h', ax_same md_F h h' → Ret (some (.int (-1000))) h') : mX10_holds g [.ref 77, .int x1, .int x2, .int x3] h Ret := by
  have K := a.2.2.2.2
  obtain ⟨a1, T1, hs1⟩ := q_code (v := 0) a.2.1 a.2.2.2.1
  refine uX10_holds (fun A hA => vX10_holds_0 hA ⟨a.2.1.1, ?_⟩)
  obtain ⟨a2, T2, hs2⟩ := mf_keep (k := 47) (v := x2) a1 T1
  refine ⟨a1.1, c_mhasTable a1 T1 K ⟨_, rfl, ?_⟩⟩
  first | refine br2 (hq _ (sm_tr hs1 hs2)) ⟨a2.1, no_hand a2 T2 K hx ⟨_, rfl, ?_⟩⟩ | refine br2' (hq _ (sm_tr hs1 hs2)) ⟨a2.1, no_hand a2 T2 K hx ⟨_, rfl, ?_⟩⟩
  first | exact br0 (hq _ (sm_tr hs1 hs2)) | exact br0' (hq _ (sm_tr hs1 hs2))
theorem no10_clock (a : tc h z DD N C) (hx : sp_in x1 (z 0) = false) (hq : ∀ h', ax_same md_F h h' → Ret (some (.int (-1))) h') : mX10_clock g [.ref 77, .int x1, .int x2, .int x3, .int x4] h Ret := by
  have K := a.2.2.2.2
  obtain ⟨a1, T1, hs1⟩ := q_code (v := 0) a.2.1 a.2.2.2.1
  refine eX10_clock ⟨a.2.1.1, ?_⟩
  obtain ⟨a2, T2, hs2⟩ := mf_keep (k := 47) (v := x2) a1 T1
  refine ⟨a1.1, c_mhasTable a1 T1 K ⟨_, rfl, ?_⟩⟩
  first | refine br2 (hq _ (sm_tr hs1 hs2)) ⟨a2.1, no_hand a2 T2 K hx ⟨_, rfl, ?_⟩⟩ | refine br2' (hq _ (sm_tr hs1 hs2)) ⟨a2.1, no_hand a2 T2 K hx ⟨_, rfl, ?_⟩⟩
  first | exact br0 (hq _ (sm_tr hs1 hs2)) | exact br0' (hq _ (sm_tr hs1 hs2))
theorem no10_fits (a : tc h z DD N C) (hx : sp_in x1 (z 0) = false) (hq : ∀ h', ax_same md_F h h' → Ret (some (.int (-2))) h') : mX10_fits g [.ref 77, .int x1, .int x2, .int x3] h Ret := by
  have K := a.2.2.2.2
  obtain ⟨a1, T1, hs1⟩ := q_code (v := 0) a.2.1 a.2.2.2.1
  refine eX10_fits ⟨a.2.1.1, ?_⟩
  obtain ⟨a2, T2, hs2⟩ := mf_keep (k := 49) (v := x2) a1 T1
  refine ⟨a1.1, c_mhasSights a1 T1 K ⟨_, rfl, ?_⟩⟩
  first | refine br2 (hq _ (sm_tr hs1 hs2)) ⟨a2.1, no_hand a2 T2 K hx ⟨_, rfl, ?_⟩⟩ | refine br2' (hq _ (sm_tr hs1 hs2)) ⟨a2.1, no_hand a2 T2 K hx ⟨_, rfl, ?_⟩⟩
  first | exact br0 (hq _ (sm_tr hs1 hs2)) | exact br0' (hq _ (sm_tr hs1 hs2))
theorem no10_reign (a : tc h z DD N C) (hx : sp_in x1 (z 0) = false) (hq : ∀ h', ax_same md_F h h' → Ret (some (.int (-1000000))) h') : mX10_reign g [.ref 77, .int x1, .int x2, .int x3] h Ret := by
  have K := a.2.2.2.2
  obtain ⟨a1, T1, hs1⟩ := q_code (v := 0) a.2.1 a.2.2.2.1
  refine eX10_reign ⟨a.2.1.1, ?_⟩
  refine c_min ⟨_, rfl, ?_⟩
  first | refine br2 (hq _ hs1) ⟨a1.1, no_hand a1 T1 K hx ⟨_, rfl, ?_⟩⟩ | refine br2' (hq _ hs1) ⟨a1.1, no_hand a1 T1 K hx ⟨_, rfl, ?_⟩⟩
  first | exact br0 (hq _ hs1) | exact br0' (hq _ hs1)
theorem no10_hope (a : tc h z DD N C) (hx : sp_in x1 (z 0) = false) (hq : ∀ h', ax_same md_F h h' → Ret (some (.long (-1000000))) h') : mX10_hope g [.ref 77, .int x1, .int x2, .int x3, .int x4] h Ret := by
  have K := a.2.2.2.2
  obtain ⟨a1, T1, hs1⟩ := q_code (v := 0) a.2.1 a.2.2.2.1
  refine eX10_hope ⟨a.2.1.1, ?_⟩
  refine c_min ⟨_, rfl, ?_⟩
  first | refine br2 (hq _ hs1) ⟨a1.1, no_handOne a1 T1 K hx (fun h' hs => ⟨_, rfl, ?_⟩)⟩ | refine br2' (hq _ hs1) ⟨a1.1, no_handOne a1 T1 K hx (fun h' hs => ⟨_, rfl, ?_⟩)⟩
  first | exact br0 (hq _ (sm_tr hs1 hs)) | exact br0' (hq _ (sm_tr hs1 hs))
theorem no10_doom (a : tc h z DD N C) (hx : sp_in x1 (z 0) = false) (hq : ∀ h', ax_same md_F h h' → Ret (some (.long (-1))) h') : mX10_doom g [.ref 77, .int x1, .int x2, .int x3, .int x4] h Ret := by
  have K := a.2.2.2.2
  obtain ⟨a1, T1, hs1⟩ := q_code (v := 0) a.2.1 a.2.2.2.1
  refine eX10_doom ⟨a.2.1.1, ?_⟩
  refine c_min ⟨_, rfl, ?_⟩
  first | refine br2 (hq _ hs1) ⟨a1.1, no_handOne a1 T1 K hx (fun h' hs => ⟨_, rfl, ?_⟩)⟩ | refine br2' (hq _ hs1) ⟨a1.1, no_handOne a1 T1 K hx (fun h' hs => ⟨_, rfl, ?_⟩)⟩
  first | exact br0 (hq _ (sm_tr hs1 hs)) | exact br0' (hq _ (sm_tr hs1 hs))
theorem no10_ruling (a : tc h z DD N C) (hx : sp_in x1 (z 0) = false) (hq : ∀ h', ax_same md_F h h' → Ret (some (.int (-1000000))) h') : mX10_ruling g [.ref 77, .int x1, .int x2] h Ret := by
  have K := a.2.2.2.2
  obtain ⟨a1, T1, hs1⟩ := q_code (v := 0) a.2.1 a.2.2.2.1
  refine uX10_ruling (fun A hA => vX10_ruling_0 hA ⟨a.2.1.1, ?_⟩)
  refine c_min ⟨_, rfl, ?_⟩
  first | refine br2 (hq _ hs1) ⟨a1.1, no_hand a1 T1 K hx ⟨_, rfl, ?_⟩⟩ | refine br2' (hq _ hs1) ⟨a1.1, no_hand a1 T1 K hx ⟨_, rfl, ?_⟩⟩
  first | exact br0 (hq _ hs1) | exact br0' (hq _ hs1)
theorem no10_trust (a : tc h z DD N C) (hx : sp_in x1 (z 0) = false) (hq : ∀ h', ax_same md_F h h' → Ret (some (.int (-1))) h') : mX10_trust g [.ref 77, .int x1, .int x2, .int x3] h Ret := by
  have K := a.2.2.2.2
  obtain ⟨a1, T1, hs1⟩ := q_code (v := 0) a.2.1 a.2.2.2.1
  refine uX10_trust (fun A hA => vX10_trust_0 hA ⟨a.2.1.1, ?_⟩)
  obtain ⟨a2, T2, hs2⟩ := mf_keep (k := 47) (v := x2) a1 T1
  refine ⟨a1.1, c_mhasTable a1 T1 K ⟨_, rfl, ?_⟩⟩
  first | refine br2 (hq _ (sm_tr hs1 hs2)) ⟨a2.1, no_hand a2 T2 K hx ⟨_, rfl, ?_⟩⟩ | refine br2' (hq _ (sm_tr hs1 hs2)) ⟨a2.1, no_hand a2 T2 K hx ⟨_, rfl, ?_⟩⟩
  first | exact br0 (hq _ (sm_tr hs1 hs2)) | exact br0' (hq _ (sm_tr hs1 hs2))
theorem no10_tight (a : tc h z DD N C) (hx : sp_in x1 (z 0) = false) (hq : ∀ h', ax_same md_F h h' → Ret (some (.int (-1))) h') : mX10_tight g [.ref 77, .int x1, .int x2] h Ret := by
  have K := a.2.2.2.2
  obtain ⟨a1, T1, hs1⟩ := q_code (v := 0) a.2.1 a.2.2.2.1
  refine uX10_tight (fun A hA => vX10_tight_0 hA ⟨a.2.1.1, ?_⟩)
  obtain ⟨a2, T2, hs2⟩ := mf_keep (k := 47) (v := x2) a1 T1
  refine ⟨a1.1, c_mhasTable a1 T1 K ⟨_, rfl, ?_⟩⟩
  first | refine br2 (hq _ (sm_tr hs1 hs2)) ⟨a2.1, no_hand a2 T2 K hx ⟨_, rfl, ?_⟩⟩ | refine br2' (hq _ (sm_tr hs1 hs2)) ⟨a2.1, no_hand a2 T2 K hx ⟨_, rfl, ?_⟩⟩
  first | exact br0 (hq _ (sm_tr hs1 hs2)) | exact br0' (hq _ (sm_tr hs1 hs2))
theorem no10_free (a : tc h z DD N C) (hx : sp_in x1 (z 0) = false) (hq : ∀ h', ax_same md_F h h' → Ret (some (.int (-1000000))) h') : mX10_free g [.ref 77, .int x1, .int x2, .int x3] h Ret := by
  have K := a.2.2.2.2
  obtain ⟨a1, T1, hs1⟩ := q_code (v := 0) a.2.1 a.2.2.2.1
  refine eX10_free ⟨a.2.1.1, ?_⟩
  refine ⟨a1.1, c_mhasErrands a1 T1 K (fun h2 hs2 _ _ _ => ⟨_, rfl, ?_⟩)⟩
  have hs3 : ax_same md_F (ax_pi h 77 0 0) h2 := sm_mono hs2.1 (fun x q => q.elim (fun e => Or.inl e) False.elim)
  have a2 := mo_st_same hs3 a1
  have T2 : tm_at h2 77 0 z DD N C := tm_at_same hs3 (fun j hj q => by unfold md_F at q; omega) T1
  first | refine br2 (hq _ (sm_tr hs1 hs3)) ⟨a2.1, no_hand a2 T2 K hx ⟨_, rfl, ?_⟩⟩ | refine br2' (hq _ (sm_tr hs1 hs3)) ⟨a2.1, no_hand a2 T2 K hx ⟨_, rfl, ?_⟩⟩
  first | exact br0 (hq _ (sm_tr hs1 hs3)) | exact br0' (hq _ (sm_tr hs1 hs3))
end
end

section
section
/-! what is told, whole: length and bytes of the tape, fault, its place, how many of each sort, republics, lines -/
abbrev sT : Type := Nat × (Nat → Int32) × Int32 × Int32 × (Nat → Nat) × (Nat → rD) × (Nat → Nat → Nat) × (Nat → Nat → Nat → Nat → Int32)
def s_n (S : sT) : Nat := S.1
def s_t (S : sT) : Nat → Int32 := S.2.1
def s_f (S : sT) : Int32 := S.2.2.1
def s_p (S : sT) : Int32 := S.2.2.2.1
def s_z (S : sT) : Nat → Nat := S.2.2.2.2.1
def s_D (S : sT) : Nat → rD := S.2.2.2.2.2.1
def s_N (S : sT) : Nat → Nat → Nat := S.2.2.2.2.2.2.1
def s_C (S : sT) : Nat → Nat → Nat → Nat → Int32 := S.2.2.2.2.2.2.2
def s_ok (S : sT) : Prop := tk (s_z S) (s_D S) (s_N S) (s_C S) ∧ s_n S ≤ 600 ∧ ∀ i, i < 600 → fits .byte (.int (s_t S i)) = true
/-- as the class has it, at t -/
def tl_at (h : ax_H) (t : Nat) (S : sT) : Prop := to_at h t (s_z S) (s_D S) (s_N S) (s_C S) ∧ ax_i h t 4 = nI (s_n S) ∧ ax_i h t 5 = s_f S ∧ ax_i h t 6 = s_p S ∧ (∀ i, i < 600 → ax_i h (t + 1) i = s_t S i) ∧ ax_r h (t + 4) 0 = none ∧ ax_r h (t + 4) 1 = none
/-- as the reference has it, at m, of row σ -/
def ml_at (h : ax_H) (m σ : Nat) (S : sT) : Prop := tm_at h m σ (s_z S) (s_D S) (s_N S) (s_C S) ∧ ax_i h (m + 2) σ = nI (s_n S) ∧ ax_i h (m + 3) σ = s_f S ∧ ax_i h (m + 4) σ = s_p S ∧ ∀ i, i < 600 → ax_i h (m + 1) (600 * σ + i) = s_t S i
theorem to_at_ag {P : Nat → Prop} {h h' : ax_H} {t : Nat} {z : Nat → Nat} {DD : Nat → rD} {N : Nat → Nat → Nat} {C : Nat → Nat → Nat → Nat → Int32} (s : ag P h h') (i : ∀ b, t ≤ b → b < t + 33 → P b) (a : to_at h t z DD N C) : to_at h' t z DD N C := by
  obtain ⟨a1, a2, a3, a4⟩ := a
  refine ⟨to_st_ag s i a1, fun q hq => ⟨(a2 q hq).1, by rw [(s (t + 2) (i _ (by omega) (by omega))).2.1]; exact (a2 q hq).2⟩, fun k hk => rc_at_ag s (fun j hj => i _ (by omega) ?_) (a3 k hk), fun q k h1 h5 hk => li_at_ag s ⟨i _ (by unfold lnp; omega) ?_, i _ (by unfold lnp; omega) ?_⟩ (a4 q k h1 h5 hk)⟩
  · have := (a2 0 (by decide)).1; omega
  · have := (a2 q h5).1; unfold lnp; omega
  · have := (a2 q h5).1; unfold lnp; omega
theorem tl_at_ag {P : Nat → Prop} {h h' : ax_H} {t : Nat} {S : sT} (s : ag P h h') (i : ∀ b, t ≤ b → b < t + 33 → P b) (a : tl_at h t S) : tl_at h' t S := by
  obtain ⟨a1, a2, a3, a4, a5, a6, a7⟩ := a
  have e0 := s t (i t (by omega) (by omega))
  have e4 := s (t + 4) (i _ (by omega) (by omega))
  exact ⟨to_at_ag s i a1, by rw [e0.2.1]; exact a2, by rw [e0.2.1]; exact a3, by rw [e0.2.1]; exact a4, fun q hq => by rw [(s (t + 1) (i _ (by omega) (by omega))).2.1]; exact a5 q hq, by rw [e4.2.2.2]; exact a6, by rw [e4.2.2.2]; exact a7⟩
theorem rm_at_ag {P : Nat → Prop} {h h' : ax_H} {m B : Nat} {D : rD} (s : ag P h h') (i : P (m + 6)) (a : rm_at h m B D) : rm_at h' m B D := by
  have e := (s _ i).2.1
  unfold rm_at
  simp only [e]
  exact a
theorem tm_at_ag {P : Nat → Prop} {h h' : ax_H} {m σ : Nat} {z : Nat → Nat} {DD : Nat → rD} {N : Nat → Nat → Nat} {C : Nat → Nat → Nat → Nat → Int32} (s : ag P h h') (i : ∀ j, j < 6 → P (m + 5 + j)) (a : tm_at h m σ z DD N C) : tm_at h' m σ z DD N C := by
  refine ⟨fun q h5 => by rw [(s _ (i 0 (by decide))).2.1]; exact a.1 q h5, fun k hk => rm_at_ag s (i 1 (by decide)) (a.2.1 k hk), fun q k h1 h5 hk => ?_⟩
  have e : ∀ j, ax_i h' (m + 6 + q) j = ax_i h (m + 6 + q) j := (s _ (by have := i (1 + q) (by omega); rwa [show m + 5 + (1 + q) = m + 6 + q by omega] at this)).2.1
  exact ⟨by rw [e]; exact (a.2.2 q k h1 h5 hk).1, fun x j hi hj => by rw [e]; exact (a.2.2 q k h1 h5 hk).2 x j hi hj⟩
theorem ml_at_ag {P : Nat → Prop} {h h' : ax_H} {m σ : Nat} {S : sT} (s : ag P h h') (i : ∀ j, 1 ≤ j → j ≤ 10 → P (m + j)) (a : ml_at h m σ S) : ml_at h' m σ S := by
  obtain ⟨a1, a2, a3, a4, a5⟩ := a
  exact ⟨tm_at_ag s (fun j hj => by have := i (5 + j) (by omega) (by omega); rwa [← Nat.add_assoc] at this) a1, by rw [(s _ (i 2 (by decide) (by decide))).2.1]; exact a2, by rw [(s _ (i 3 (by decide) (by decide))).2.1]; exact a3, by rw [(s _ (i 4 (by decide) (by decide))).2.1]; exact a4, fun q hq => by rw [(s _ (i 1 (by decide) (by decide))).2.1]; exact a5 q hq⟩
theorem mo_st_ag {P : Nat → Prop} {h h' : ax_H} {m : Nat} (s : ag P h h') (i : ∀ j, j < 26 → P (m + j)) (a : mo_st h m) : mo_st h' m := by
  have e0 := s m (i 0 (by decide))
  exact ⟨by rw [e0.1]; exact a.1, fun j q hj => ⟨by rw [e0.2.2.2]; exact (a.2 j q hj).1, by rw [(s (m + 1 + j) (by have := i (1 + j) (by have := (mo_lt hj).1; omega); rwa [← Nat.add_assoc] at this)).1]; exact (a.2 j q hj).2⟩⟩
theorem xs_st_ag {P : Nat → Prop} {h h' : ax_H} (s : ag P h h') (i : ∀ b, b < 77 → P b) (a : xs_st h) : xs_st h' := by
  obtain ⟨a1, ⟨b0, b1, b2, b3, b4, b5, b6, b7, b8⟩, c1, c2, c3, c4⟩ := a
  have e0 := s 0 (i 0 (by decide))
  exact ⟨by rw [e0.1]; exact a1, ⟨by rw [e0.2.2.2]; exact b0, by rw [e0.2.2.2]; exact b1, by rw [e0.2.2.2]; exact b2, by rw [e0.2.2.2]; exact b3, by rw [e0.2.2.2]; exact b4, by rw [e0.2.2.2]; exact b5, by rw [e0.2.2.2]; exact b6, by rw [e0.2.2.2]; exact b7, by rw [e0.2.2.2]; exact b8⟩, co_st_ag s ⟨i _ (by decide), i _ (by decide), i _ (by decide)⟩ c1, od_st_ag s ⟨i _ (by decide), i _ (by decide)⟩ c2, od_st_ag s ⟨i _ (by decide), i _ (by decide)⟩ c3, by rw [(s 76 (i _ (by decide))).1]; exact c4⟩
theorem cs_st_ag {P : Nat → Prop} {h h' : ax_H} (s : ag P h h') (i : ∀ b, b < 77 → P b) (a : cs_st h) : cs_st h' := by
  obtain ⟨a1, a2, a3, a4, a5, a6, a7, a8⟩ := a
  exact ⟨xs_st_ag s i a1, to_st_ag s (fun b _ hb => i b (by omega)) a2, re_n_ag s (fun j hj => i _ (by omega)) (fun q h1 h2 => ⟨i _ (by omega), i _ (by omega)⟩) a3, pl_st_ag s (fun j hj => i _ (by omega)) a4, se_n_ag s (fun j hj => i _ (by omega)) a5, by rw [(s 34 (i _ (by decide))).1]; exact a6, by rw [(s 5 (i _ (by decide))).2.2.2]; exact a7, by rw [(s 5 (i _ (by decide))).2.2.2]; exact a8⟩
/-- what stays where only ints and longs of cells of F were written -/
theorem re_st_same {F : Nat → Prop} {h h' : ax_H} {r tp : Nat} (s : ax_same F h h') (i : ∀ q, 1 ≤ q → q < 5 → ¬ F (r + 7 + 2 * q)) (a : re_st h r tp) : re_st h' r tp := by
  obtain ⟨a1, ⟨b1, b2, b3, b4⟩, c1, c2, c3, c4, d⟩ := a
  exact ⟨by rw [s.2.1]; exact a1, ⟨by rw [s.2.2.1]; exact b1, by rw [s.2.2.1]; exact b2, by rw [s.2.2.1]; exact b3, by rw [s.2.2.1]; exact b4⟩, rc_st_same s c1, by rw [s.2.1]; exact c2, by rw [s.2.1]; exact c3, by rw [s.2.2.1]; exact c4, fun q h1 hq => ⟨by rw [s.2.2.1]; exact (d q h1 hq).1, li_st_same s (i q h1 hq) (d q h1 hq).2⟩⟩
/-! the whole state: what is told, its images -/
def ci_at (h : ax_H) (S : sT) (Im : Nat → Option sT) (tp : Nat → Nat) : Prop := cs_st h ∧ tl_at h 1 S ∧ (∀ k, k < 3 → (Im k = none → ax_r h 34 k = none) ∧ ∀ S', Im k = some S' → ax_r h 34 k = some (tp k) ∧ 103 ≤ tp k ∧ tp k + 33 ≤ h.1 ∧ tl_at h (tp k) S') ∧ ∀ j k, j < 3 → k < 3 → j ≠ k → Im j ≠ none → Im k ≠ none → tp j + 33 ≤ tp k ∨ tp k + 33 ≤ tp j
def mi_at (h : ax_H) (S : sT) (Im : Nat → Option sT) : Prop := mo_st h 77 ∧ ml_at h 77 0 S ∧ ∀ k, k < 3 → (Im k = none → ax_i h 102 k = 0) ∧ ∀ S', Im k = some S' → ax_i h 102 k = 1 ∧ ml_at h 77 (k + 1) S'
def im_ok (Im : Nat → Option sT) : Prop := ∀ k S', k < 3 → Im k = some S' → s_ok S'
theorem ci_ag {P : Nat → Prop} {h h' : ax_H} {S : sT} {Im : Nat → Option sT} {tp : Nat → Nat} (s : ag P h h') (i : ∀ b, b < 77 ∨ 103 ≤ b → P b) (hn : h.1 ≤ h'.1) (a : ci_at h S Im tp) : ci_at h' S Im tp := by
  obtain ⟨a1, a2, a3, a4⟩ := a
  refine ⟨cs_st_ag s (fun b hb => i b (by omega)) a1, tl_at_ag s (fun b _ hb => i b (by omega)) a2, fun k hk => ⟨fun e => by rw [(s 34 (i _ (by omega))).2.2.2]; exact (a3 k hk).1 e, fun S' e => ?_⟩, a4⟩
  obtain ⟨b1, b2, b3, b4⟩ := (a3 k hk).2 S' e
  exact ⟨by rw [(s 34 (i _ (by omega))).2.2.2]; exact b1, b2, by omega, tl_at_ag s (fun b h1 _ => i b (by omega)) b4⟩
theorem mi_ag {P : Nat → Prop} {h h' : ax_H} {S : sT} {Im : Nat → Option sT} (s : ag P h h') (i : ∀ b, 77 ≤ b → b ≤ 102 → P b) (a : mi_at h S Im) : mi_at h' S Im := by
  obtain ⟨a1, a2, a3⟩ := a
  refine ⟨mo_st_ag s (fun j hj => i _ (by omega) (by omega)) a1, ml_at_ag s (fun j h1 h2 => i _ (by omega) (by omega)) a2, fun k hk => ⟨fun e => by rw [(s 102 (i _ (by omega) (by omega))).2.1]; exact (a3 k hk).1 e, fun S' e => ?_⟩⟩
  obtain ⟨b1, b2⟩ := (a3 k hk).2 S' e
  exact ⟨by rw [(s 102 (i _ (by omega) (by omega))).2.1]; exact b1, ml_at_ag s (fun j h1 h2 => i _ (by omega) (by omega)) b2⟩
/-- a query of the class leaves the class's state -/
theorem ci_cl {h h' : ax_H} {S : sT} {Im : Nat → Option sT} {tp : Nat → Nat} (s : ax_same cl_F h h') (a : ci_at h S Im tp) : ci_at h' S Im tp := by
  obtain ⟨⟨x1, x2, x3, x4, x5, x6, x7, x8⟩, a2, a3, a4⟩ := a
  have g : ag (fun b => b < 52 ∨ 77 ≤ b) h h' := ag_same s (fun x hx q => by unfold cl_F at q; omega)
  refine ⟨⟨xs_st_same s x1, to_st_ag g (fun b _ hb => by omega) x2, re_n_ag g (fun j hj => by omega) (fun q h1 h2 => by omega) x3, pl_st_same s x4, se_st_same s x5, by rw [s.2.1]; exact x6, by rw [s.2.2.1]; exact x7, by rw [s.2.2.1]; exact x8⟩, tl_at_ag g (fun b _ hb => by omega) a2, fun k hk => ⟨fun e => by rw [s.2.2.1]; exact (a3 k hk).1 e, fun S' e => ?_⟩, a4⟩
  obtain ⟨b1, b2, b3, b4⟩ := (a3 k hk).2 S' e
  exact ⟨by rw [s.2.2.1]; exact b1, b2, by rw [s.1]; exact b3, tl_at_ag g (fun b h1 _ => by omega) b4⟩
/-- a query of the reference leaves the reference's state -/
theorem mi_md {h h' : ax_H} {S : sT} {Im : Nat → Option sT} (s : ax_same md_F h h') (a : mi_at h S Im) : mi_at h' S Im := by
  obtain ⟨a1, a2, a3⟩ := a
  have g : ag (fun b => (78 ≤ b ∧ b ≤ 87) ∨ b = 102) h h' := ag_same s (fun x hx q => by unfold md_F at q; omega)
  refine ⟨mo_st_same s a1, ml_at_ag g (fun j h1 h2 => by omega) a2, fun k hk => ⟨fun e => by rw [(g 102 (by omega)).2.1]; exact (a3 k hk).1 e, fun S' e => ?_⟩⟩
  obtain ⟨b1, b2⟩ := (a3 k hk).2 S' e
  exact ⟨by rw [(g 102 (by omega)).2.1]; exact b1, ml_at_ag g (fun j h1 h2 => by omega) b2⟩
/-- what the queries find -/
theorem tc_of {h : ax_H} {S : sT} {Im : Nat → Option sT} {tp : Nat → Nat} (a : ci_at h S Im tp) (b : mi_at h S Im) (ok : s_ok S) : tc h (s_z S) (s_D S) (s_N S) (s_C S) := ⟨a.1.1, b.1, a.2.1.1, b.2.1.1, ok.1⟩
end
end

section
section
variable {g : ax_G} {Ret : Option Value → ax_H → Prop} {h : ax_H} {S : sT}
/-! bytes behind the tape -/
def bytT (v x : Int32) : Int32 := ((v >>> (x &&& 31)).toInt8.toInt32).toInt8.toInt32
def tq (T : Nat → Int32) (n : Nat) (v x : Int32) : Nat → Int32 := fun i => if i = n then bytT v x else T i
def ap4 (T : Nat → Int32) (n : Nat) (v : Int32) : Nat → Int32 := tq (tq (tq (tq T n v 24) (n + 1) v (24 + -8)) (n + 2) v (24 + -8 + -8)) (n + 3) v (24 + -8 + -8 + -8)
def ap20 (T : Nat → Int32) (n : Nat) (a b c d e : Int32) : Nat → Int32 := ap4 (ap4 (ap4 (ap4 (ap4 T n a) (n + 4) b) (n + 8) c) (n + 12) d) (n + 16) e
def tyb (T : Nat → Int32) : Prop := ∀ i, i < 600 → fits .byte (.int (T i)) = true
theorem tq_ok {T : Nat → Int32} {n : Nat} {v x : Int32} (a : tyb T) : tyb (tq T n v x) := fun i hi => by
  unfold tq
  split
  · exact pk_fb _
  · exact a i hi
theorem ap4_ok {T : Nat → Int32} {n : Nat} {v : Int32} (a : tyb T) : tyb (ap4 T n v) := tq_ok (tq_ok (tq_ok (tq_ok a)))
theorem ap20_ok {T : Nat → Int32} {n : Nat} {a b c d e : Int32} (i : tyb T) : tyb (ap20 T n a b c d e) := ap4_ok (ap4_ok (ap4_ok (ap4_ok (ap4_ok i))))
theorem c_append {t n : Nat} {T : Nat → Int32} {v : Int32} (s0 : (ax_s h t).1 = 8) (r0 : ax_r h t 0 = some (t + 1)) (s1 : ax_s h (t + 1) = (12, 600)) (hn : n + 4 ≤ 600) (el : ax_i h t 4 = nI n) (et : ∀ i, i < 600 → ax_i h (t + 1) i = T i) (hq : ∀ h', ax_same (fun a => a = t ∨ a = t + 1) h h' → ax_i h' t 4 = nI (n + 4) → (∀ i, i < 600 → ax_i h' (t + 1) i = ap4 T n v i) → ax_i h' t 5 = ax_i h t 5 → ax_i h' t 6 = ax_i h t 6 → Ret none h') : mX8_append g [.ref t, .int v] h Ret := by
  refine uX8_append (fun A hA => vX8_append_0 hA ?_)
  have step : ∀ (x : Int32) (k : Nat) (U : Nat → Int32) (hh : ax_H), ¬ x < 0 → k < 600 → ax_same (fun a => a = t ∨ a = t + 1) h hh → ax_i hh t 4 = nI k → (∀ i, i < 600 → ax_i hh (t + 1) i = U i) → ax_i hh t 5 = ax_i h t 5 → ax_i hh t 6 = ax_i h t 6 → (∀ h', ax_same (fun a => a = t ∨ a = t + 1) h h' → ax_i h' t 4 = nI (k + 1) → (∀ i, i < 600 → ax_i h' (t + 1) i = tq U k v x i) → ax_i h' t 5 = ax_i h t 5 → ax_i h' t 6 = ax_i h t 6 → A (3, [some (.ref t), some (.int v), some (.int (x + -8))], [], h', 0, 0)) → A (3, [some (.ref t), some (.int v), some (.int x)], [], hh, 0, 0) := by
    intro x k U hh hx hk hs e4 eu e5 e6 go
    have s0' : (ax_s hh t).1 = 8 := by rw [hs.2.1]; exact s0
    have r0' : ax_r hh t 0 = some (t + 1) := by rw [hs.2.2.1]; exact r0
    have s1' : ax_s hh (t + 1) = (12, 600) := by rw [hs.2.1]; exact s1
    refine vX8_append_3 hA ⟨fun q => absurd q hx, fun _ => ⟨s0', fun q => ?_, fun _ => ⟨s0', _, r0', s0', by rw [s1'], by rw [e4, s1']; exact vp_in_nI hk (by decide), rfl, s0', s0', ?_⟩⟩⟩
    · rw [e4] at q; exact absurd q (nI_ge (a := k) (b := 600) hk (by decide))
    · rw [e4, nI_clamp (by omega)]
      refine go _ (sm_tr hs (sm_tr (sm_pi (Or.inr rfl)) (sm_pi (Or.inl rfl)))) ?_ (fun i hi => ?_) ?_ ?_
      · rw [ai_eq, ai_ne (by omega), e4, nI_succ]
      · rw [ai_ne (by omega), ai_pi]
        unfold tq bytT
        by_cases e : i = k
        · rw [if_pos ⟨rfl, e⟩, if_pos e]
        · rw [if_neg (fun q => e q.2), if_neg e]; exact eu i hi
      · rw [ai_ne (by omega), ai_ne (by omega)]; exact e5
      · rw [ai_ne (by omega), ai_ne (by omega)]; exact e6
  refine step 24 n T h (by decide) (by omega) sm_rf el et rfl rfl (fun h1 a1 b1 c1 d1 f1 => ?_)
  refine step _ (n + 1) _ h1 (by decide) (by omega) a1 b1 c1 d1 f1 (fun h2 a2 b2 c2 d2 f2 => ?_)
  refine step _ (n + 2) _ h2 (by decide) (by omega) a2 b2 c2 d2 f2 (fun h3 a3 b3 c3 d3 f3 => ?_)
  refine step _ (n + 3) _ h3 (by decide) (by omega) a3 b3 c3 d3 f3 (fun h4 a4 b4 c4 d4 f4 => ?_)
  exact vX8_append_3 hA ⟨fun _ => hq h4 a4 b4 c4 d4 f4, fun q => absurd (by decide) q⟩
/-- the same in the reference -/
theorem c_mfour {n : Nat} {T : Nat → Int32} {v : Int32} (a : mo_st h 77) (hn : n + 4 ≤ 600) (el : ax_i h 79 0 = nI n) (et : ∀ i, i < 600 → ax_i h 78 i = T i) (hq : ∀ h', ax_same (fun a => a = 78 ∨ a = 79) h h' → ax_i h' 79 0 = nI (n + 4) → (∀ i, i < 600 → ax_i h' 78 i = ap4 T n v i) → (∀ i, 600 ≤ i → ax_i h' 78 i = ax_i h 78 i) → (∀ i, 1 ≤ i → ax_i h' 79 i = ax_i h 79 i) → Ret none h') : mX10_four g [.ref 77, .int v] h Ret := by
  refine uX10_four (fun A hA => vX10_four_0 hA ?_)
  have step : ∀ (x : Int32) (k : Nat) (U : Nat → Int32) (hh : ax_H), ¬ x < 0 → k < 600 → ax_same (fun a => a = 78 ∨ a = 79) h hh → ax_i hh 79 0 = nI k → (∀ i, i < 600 → ax_i hh 78 i = U i) → (∀ i, 600 ≤ i → ax_i hh 78 i = ax_i h 78 i) → (∀ i, 1 ≤ i → ax_i hh 79 i = ax_i h 79 i) → (∀ h', ax_same (fun a => a = 78 ∨ a = 79) h h' → ax_i h' 79 0 = nI (k + 1) → (∀ i, i < 600 → ax_i h' 78 i = tq U k v x i) → (∀ i, 600 ≤ i → ax_i h' 78 i = ax_i h 78 i) → (∀ i, 1 ≤ i → ax_i h' 79 i = ax_i h 79 i) → A (3, [some (.ref 77), some (.int v), some (.int (x + -8))], [], h', 0, 0)) → A (3, [some (.ref 77), some (.int v), some (.int x)], [], hh, 0, 0) := by
    intro x k U hh hx hk hs e4 eu e5 e6 go
    have a' := mo_st_same hs a
    have s0' := a'.1
    obtain ⟨r0', s1'⟩ : ax_r hh 77 1 = some 78 ∧ ax_s hh 78 = (12, 2400) := a'.2 0 _ rfl
    obtain ⟨r2', s2'⟩ : ax_r hh 77 2 = some 79 ∧ ax_s hh 79 = (11, 4) := a'.2 1 _ rfl
    have in0 : vp_in (0 : Int32) 4 := vp_in_nI (n := 0) (N := 4) (by decide) (by decide)
    refine vX10_four_3 hA ⟨fun q => absurd q hx, fun _ => ⟨s0', _, r0', s0', _, r2', by rw [s2'], by rw [s2']; exact in0, by rw [s1'], by rw [e4, s1']; exact vp_in_nI (by omega) (by decide), s0', _, r2', ⟨rfl, rfl⟩, by rw [as_pi, s2'], by rw [as_pi, s2']; exact in0, by rw [as_pi, s2'], by rw [as_pi, s2']; exact in0, ?_⟩⟩
    rw [e4, nI_clamp (by omega)]
    refine go _ (sm_tr hs (sm_tr (sm_pi (Or.inl rfl)) (sm_pi (Or.inr rfl)))) ?_ (fun i hi => ?_) (fun i hi => ?_) (fun i hi => ?_)
    · rw [ai_eq, ai_ne (by omega), e4, nI_succ]
    · rw [ai_ne (by omega), ai_pi]
      unfold tq bytT
      by_cases e : i = k
      · rw [if_pos ⟨rfl, e⟩, if_pos e]
      · rw [if_neg (fun q => e q.2), if_neg e]; exact eu i hi
    · rw [ai_ne (by omega), ai_ne (by omega)]; exact e5 i hi
    · rw [ai_ne (by omega), ai_ne (by omega)]; exact e6 i hi
  refine step 24 n T h (by decide) (by omega) sm_rf el et (fun _ _ => rfl) (fun _ _ => rfl) (fun h1 a1 b1 c1 d1 f1 => ?_)
  refine step _ (n + 1) _ h1 (by decide) (by omega) a1 b1 c1 d1 f1 (fun h2 a2 b2 c2 d2 f2 => ?_)
  refine step _ (n + 2) _ h2 (by decide) (by omega) a2 b2 c2 d2 f2 (fun h3 a3 b3 c3 d3 f3 => ?_)
  refine step _ (n + 3) _ h3 (by decide) (by omega) a3 b3 c3 d3 f3 (fun h4 a4 b4 c4 d4 f4 => ?_)
  exact vX10_four_3 hA ⟨fun _ => hq h4 a4 b4 c4 d4 f4, fun q => absurd (by decide) q⟩
/-! FEED -/
def s_feed (S : sT) (a b c d e : Int32) : sT := (s_n S + 20, ap20 (s_t S) (s_n S) a b c d e, S.2.2)
theorem tl_tape {t n : Nat} {T : Nat → Int32} {h' : ax_H} (hs : ax_same (fun a => a = t ∨ a = t + 1) h h') (a : tl_at h t S) (e4 : ax_i h' t 4 = nI n) (e5 : ax_i h' t 5 = ax_i h t 5) (e6 : ax_i h' t 6 = ax_i h t 6) (et : ∀ i, i < 600 → ax_i h' (t + 1) i = T i) : tl_at h' t (n, T, S.2.2) := by
  obtain ⟨⟨a1, a2, a3, a4⟩, b1, b2, b3, b4, b5, b6⟩ := a
  have g : ag (fun b => ¬ (b = t ∨ b = t + 1)) h h' := ag_same hs (fun x hx => hx)
  have z0 := (a2 0 (by decide)).1
  refine ⟨⟨?_, fun q hq => ⟨(a2 q hq).1, by rw [(g (t + 2) (by omega)).2.1]; exact (a2 q hq).2⟩, fun k hk => rc_at_ag g (fun j hj => ?_) (a3 k hk), fun q k h1 h5 hk => li_at_ag g ?_ (a4 q k h1 h5 hk)⟩, e4, by rw [e5]; exact b2, by rw [e6]; exact b3, et, by rw [hs.2.2.1]; exact b5, by rw [hs.2.2.1]; exact b6⟩
  · obtain ⟨c1, ⟨c2, c3, c4, c5⟩, ⟨d1, d2, d3, d4⟩, f1, f2⟩ := a1
    exact ⟨by rw [hs.2.1]; exact c1, ⟨by rw [hs.2.2.1]; exact c2, by rw [hs.2.2.1]; exact c3, by rw [hs.2.2.1]; exact c4, by rw [hs.2.2.1]; exact c5⟩, ⟨by rw [hs.2.1]; exact d1, by rw [hs.2.1]; exact d2, by rw [hs.2.1]; exact d3, by rw [hs.2.1]; exact d4⟩, fun k hk => ⟨by rw [hs.2.2.1]; exact (f1 k hk).1, rc_st_same hs (f1 k hk).2⟩, fun q k h1 h5 hk => ⟨by rw [hs.2.2.1]; exact (f2 q k h1 h5 hk).1, li_st_same hs (by unfold lnp; omega) (f2 q k h1 h5 hk).2⟩⟩
  · omega
  · unfold lnp; omega
theorem q9_feed {x1 x2 x3 x4 x5 : Int32} (hx : xs_st h) (a : tl_at h 1 S) (hn : s_n S ≤ 600) (hno : ¬ s_n S + 20 ≤ 600 → Ret (some (.int (-1))) h) (hq : s_n S + 20 ≤ 600 → ∀ h', ax_same (fun a => a = 1 ∨ a = 2) h h' → tl_at h' 1 (s_feed S x1 x2 x3 x4 x5) → Ret (some (.int (nI (s_n S + 20)))) h') : mX9_feed g [.ref 0, .int x1, .int x2, .int x3, .int x4, .int x5] h Ret := by
  obtain ⟨⟨⟨t1, ⟨t2, -, -, -⟩, ⟨t6, -, -, -⟩, -, -⟩, -, -, -⟩, e4, e5, e6, et, -, -⟩ := id a
  have ec : ax_i h 1 4 + 20 = nI (s_n S + 20) := by rw [e4, show (20 : Int32) = nI 20 from rfl, nI_add]
  have hF : ∀ {h1 h2 : ax_H}, ax_same (fun a => a = 1 ∨ a = 1 + 1) h1 h2 → ax_same (fun a => a = 1 ∨ a = 2) h1 h2 := fun s => s
  refine eX9_feed ⟨hx.1, _, hx.2.1.1, t1, fun q => ?_, fun q => ?_⟩
  · rw [ec] at q
    have hle : s_n S + 20 ≤ 600 := by
      rcases Nat.lt_or_ge 600 (s_n S + 20) with z | z
      · exact absurd q (nI_ge (a := 600) (b := s_n S + 20) z (by omega))
      · exact z
    refine ⟨hx.1, _, hx.2.1.1, t1, c_append t1 t2 t6 (by omega) e4 et (fun h1 s1 l1 u1 f1 p1 => ⟨rfl, ?_⟩)⟩
    have x1' := xs_st_same s1 hx
    refine ⟨x1'.1, _, x1'.2.1.1, by rw [s1.2.1]; exact t1, c_append (by rw [s1.2.1]; exact t1) (by rw [s1.2.2.1]; exact t2) (by rw [s1.2.1]; exact t6) (by omega) l1 u1 (fun h2 s2 l2 u2 f2 p2 => ⟨rfl, ?_⟩)⟩
    replace s2 := sm_tr s1 s2
    have x2' := xs_st_same s2 hx
    refine ⟨x2'.1, _, x2'.2.1.1, by rw [s2.2.1]; exact t1, c_append (by rw [s2.2.1]; exact t1) (by rw [s2.2.2.1]; exact t2) (by rw [s2.2.1]; exact t6) (by omega) l2 u2 (fun h3 s3 l3 u3 f3 p3 => ⟨rfl, ?_⟩)⟩
    replace s3 := sm_tr s2 s3
    have x3' := xs_st_same s3 hx
    refine ⟨x3'.1, _, x3'.2.1.1, by rw [s3.2.1]; exact t1, c_append (by rw [s3.2.1]; exact t1) (by rw [s3.2.2.1]; exact t2) (by rw [s3.2.1]; exact t6) (by omega) l3 u3 (fun h4 s4 l4 u4 f4 p4 => ⟨rfl, ?_⟩)⟩
    replace s4 := sm_tr s3 s4
    have x4' := xs_st_same s4 hx
    refine ⟨x4'.1, _, x4'.2.1.1, by rw [s4.2.1]; exact t1, c_append (by rw [s4.2.1]; exact t1) (by rw [s4.2.2.1]; exact t2) (by rw [s4.2.1]; exact t6) (by omega) l4 u4 (fun h5 s5 l5 u5 f5 p5 => ⟨rfl, ?_⟩)⟩
    replace s5 := sm_tr s4 s5
    have x5' := xs_st_same s5 hx
    refine ⟨x5'.1, _, x5'.2.1.1, by rw [s5.2.1]; exact t1, ?_⟩
    rw [l5]
    exact hq hle h5 s5 (tl_tape s5 a l5 (f5.trans (f4.trans (f3.trans (f2.trans f1)))) (p5.trans (p4.trans (p3.trans (p2.trans p1)))) u5)
  · rw [ec] at q
    exact hno (fun z => q (nI_le z (by decide)))
theorem ml_tape {n : Nat} {T : Nat → Int32} {h' : ax_H} {Im : Nat → Option sT} (hs : ax_same (fun a => a = 77 ∨ a = 78 ∨ a = 79) h h') (a : mi_at h S Im) (e4 : ax_i h' 79 0 = nI n) (et : ∀ i, i < 600 → ax_i h' 78 i = T i) (eu : ∀ i, 600 ≤ i → ax_i h' 78 i = ax_i h 78 i) (ev : ∀ i, 1 ≤ i → ax_i h' 79 i = ax_i h 79 i) : mi_at h' (n, T, S.2.2) Im := by
  obtain ⟨a1, ⟨a2, b1, b2, b3, b4⟩, a3⟩ := a
  have g : ag (fun b => 80 ≤ b) h h' := ag_same hs (fun x hx => by omega)
  refine ⟨mo_st_same hs a1, ⟨tm_at_ag g (fun j _ => by omega) a2, e4, by rw [(g 80 (by omega)).2.1]; exact b2, by rw [(g 81 (by omega)).2.1]; exact b3, fun i hi => by rw [Nat.mul_zero, Nat.zero_add]; exact et i hi⟩, fun k hk => ⟨fun e => by rw [(g 102 (by omega)).2.1]; exact (a3 k hk).1 e, fun S' e => ?_⟩⟩
  obtain ⟨c1, c2, d1, d2, d3, d4⟩ := (a3 k hk).2 S' e
  exact ⟨by rw [(g 102 (by omega)).2.1]; exact c1, tm_at_ag g (fun j _ => by omega) c2, by rw [ev _ (by omega)]; exact d1, by rw [(g 80 (by omega)).2.1]; exact d2, by rw [(g 81 (by omega)).2.1]; exact d3, fun i hi => by rw [eu _ (by omega)]; exact d4 i hi⟩
theorem q10_feed {x1 x2 x3 x4 x5 : Int32} {Im : Nat → Option sT} (a : mi_at h S Im) (hn : s_n S ≤ 600) (hno : ¬ s_n S + 20 ≤ 600 → ∀ h', ax_same md_F h h' → Ret (some (.int (-1))) h') (hq : s_n S + 20 ≤ 600 → ∀ h', ax_same (fun a => a = 77 ∨ a = 78 ∨ a = 79) h h' → mi_at h' (s_feed S x1 x2 x3 x4 x5) Im → Ret (some (.int (nI (s_n S + 20)))) h') : mX10_feed g [.ref 77, .int x1, .int x2, .int x3, .int x4, .int x5] h Ret := by
  have hs1 : ax_same md_F h (ax_pi h 77 0 0) := sm_pi (Or.inl rfl)
  have a1 := mi_md hs1 a
  have hs0 : ax_same (fun a => a = 77 ∨ a = 78 ∨ a = 79) h (ax_pi h 77 0 0) := sm_pi (Or.inl rfl)
  refine eX10_feed ⟨a.1.1, ?_⟩
  revert hs1 a1 hs0
  generalize ax_pi h 77 0 0 = h1
  intro hs1 a1 hs0
  obtain ⟨m1, ⟨-, e4, -, -, et⟩, -⟩ := id a1
  simp only [Nat.mul_zero, Nat.zero_add] at et
  obtain ⟨r2, s2⟩ : ax_r h1 77 2 = some 79 ∧ ax_s h1 79 = (11, 4) := m1.2 1 _ rfl
  have in0 : vp_in (0 : Int32) 4 := vp_in_nI (n := 0) (N := 4) (by decide) (by decide)
  have ec : ax_i h1 79 0 + 20 = nI (s_n S + 20) := by rw [e4, show (20 : Int32) = nI 20 from rfl, nI_add]
  refine ⟨m1.1, _, r2, by rw [s2], by rw [s2]; exact in0, fun q => ⟨m1.1, ?_⟩, fun q => ?_⟩
  · rw [ec] at q
    have hle : s_n S + 20 ≤ 600 := by
      rcases Nat.lt_or_ge 600 (s_n S + 20) with z | z
      · exact absurd q (nI_ge (a := 600) (b := s_n S + 20) z (by omega))
      · exact z
    refine c_mfour m1 (by omega) e4 et (fun h2 q2 l2 u2 v2 w2 => ⟨rfl, ?_⟩)
    have m2 := mo_st_same q2 m1
    refine ⟨m2.1, c_mfour m2 (by omega) l2 u2 (fun h3 q3 l3 u3 v3 w3 => ⟨rfl, ?_⟩)⟩
    have m3 := mo_st_same q3 m2
    refine ⟨m3.1, c_mfour m3 (by omega) l3 u3 (fun h4 q4 l4 u4 v4 w4 => ⟨rfl, ?_⟩)⟩
    have m4 := mo_st_same q4 m3
    refine ⟨m4.1, c_mfour m4 (by omega) l4 u4 (fun h5 q5 l5 u5 v5 w5 => ⟨rfl, ?_⟩)⟩
    have m5 := mo_st_same q5 m4
    refine ⟨m5.1, c_mfour m5 (by omega) l5 u5 (fun h6 q6 l6 u6 v6 w6 => ⟨rfl, ?_⟩)⟩
    have m6 := mo_st_same q6 m5
    obtain ⟨r6, s6⟩ : ax_r h6 77 2 = some 79 ∧ ax_s h6 79 = (11, 4) := m6.2 1 _ rfl
    refine ⟨m6.1, _, r6, by rw [s6], by rw [s6]; exact in0, ?_⟩
    have hs : ax_same (fun a => a = 77 ∨ a = 78 ∨ a = 79) h1 h6 := sm_mono (sm_tr q2 (sm_tr q3 (sm_tr q4 (sm_tr q5 q6)))) (fun x hx => by omega)
    rw [show ax_i h6 79 0 = nI (s_n S + 20) from l6]
    exact hq hle h6 (sm_tr hs0 hs) (ml_tape hs a1 l6 u6 (fun i hi => (v6 i hi).trans ((v5 i hi).trans ((v4 i hi).trans ((v3 i hi).trans (v2 i hi))))) (fun i hi => (w6 i hi).trans ((w5 i hi).trans ((w4 i hi).trans ((w3 i hi).trans (w2 i hi))))))
  · rw [ec] at q
    exact hno (fun z => q (nI_le z (by decide))) h1 hs1
end
end

section
section
variable {g : ax_G} {Ret : Option Value → ax_H → Prop} {h : ax_H} {S : sT}
/-! END -/
def s_end (S : sT) (n : Nat) : sT := (n, S.2)
theorem q9_end {x : Int32} (hx : xs_st h) (a : tl_at h 1 S) (hn : s_n S ≤ 600) (hno : (¬ ∃ n : Nat, n ≤ s_n S ∧ x = nI n) → Ret (some (.int (-1))) h) (hq : ∀ n : Nat, n ≤ s_n S → x = nI n → ∀ h', ax_same (fun a => a = 1 ∨ a = 2) h h' → tl_at h' 1 (s_end S n) → Ret (some (.int x)) h') : mX9_end g [.ref 0, .int x] h Ret := by
  have t1 := a.1.1.1
  have e4 := a.2.1
  refine eX9_end ⟨fun q => hno (fun ⟨n, h1, h2⟩ => ?_), fun q => ⟨hx.1, _, hx.2.1.1, t1, fun q2 => ⟨hx.1, _, hx.2.1.1, t1, ?_⟩, fun q2 => hno (fun ⟨n, h1, h2⟩ => ?_)⟩⟩
  · rw [h2] at q; exact nI_pos (by omega) q
  · rw [e4] at q2
    obtain ⟨n, h1, rfl⟩ := (ni_ix (n := s_n S + 1) (by omega)).mp ⟨q, fun z => by
      have := i_le.mp q2
      have z := i_le.mp z
      rw [nI_toInt (by omega)] at this z
      omega⟩
    refine hq n (by omega) rfl _ (sm_pi (Or.inl rfl)) (tl_tape (S := S) (T := s_t S) (n := n) (sm_pi (Or.inl rfl)) a ai_eq (ai_ne (by omega)) (ai_ne (by omega)) (fun i hi => ?_))
    rw [ai_ne (by omega)]; exact a.2.2.2.2.1 i hi
  · rw [e4, h2] at q2; exact q2 (nI_le h1 (by omega))
theorem q10_end {x : Int32} {Im : Nat → Option sT} (a : mi_at h S Im) (hn : s_n S ≤ 600) (hno : (¬ ∃ n : Nat, n ≤ s_n S ∧ x = nI n) → ∀ h', ax_same md_F h h' → Ret (some (.int (-1))) h') (hq : ∀ n : Nat, n ≤ s_n S → x = nI n → ∀ h', ax_same (fun a => a = 77 ∨ a = 78 ∨ a = 79) h h' → mi_at h' (s_end S n) Im → Ret (some (.int x)) h') : mX10_end g [.ref 77, .int x] h Ret := by
  have hs1 : ax_same md_F h (ax_pi h 77 0 0) := sm_pi (Or.inl rfl)
  have a1 := mi_md hs1 a
  have hs0 : ax_same (fun a => a = 77 ∨ a = 78 ∨ a = 79) h (ax_pi h 77 0 0) := sm_pi (Or.inl rfl)
  refine eX10_end ⟨a.1.1, ?_⟩
  revert hs1 a1 hs0
  generalize ax_pi h 77 0 0 = h1
  intro hs1 a1 hs0
  obtain ⟨m1, ⟨-, e4, -, -, et⟩, -⟩ := id a1
  simp only [Nat.mul_zero, Nat.zero_add] at et
  obtain ⟨r2, s2⟩ : ax_r h1 77 2 = some 79 ∧ ax_s h1 79 = (11, 4) := m1.2 1 _ rfl
  have in0 : vp_in (0 : Int32) 4 := vp_in_nI (n := 0) (N := 4) (by decide) (by decide)
  refine ⟨m1.1, _, r2, by rw [s2], by rw [s2]; exact in0, c_min ⟨_, rfl, fun q => ⟨m1.1, _, r2, by rw [s2], by rw [s2]; exact in0, ?_⟩, fun q => ?_⟩⟩
  · have q := of_decide_eq_true (b2i_n0.mp q)
    rw [show ax_i h1 79 0 = nI (s_n S) from e4] at q
    obtain ⟨n, h1', rfl⟩ := (ni_ix (n := s_n S + 1) (by omega)).mp ⟨nt_lt.mpr q.1, fun z => by
      have := i_le.mp q.2
      have z := i_le.mp z
      rw [nI_toInt (by omega)] at this z
      omega⟩
    refine hq n (by omega) rfl _ (sm_tr hs0 (sm_pi (Or.inr (Or.inr rfl)))) (ml_tape (T := s_t S) (n := n) (sm_pi (Or.inr (Or.inr rfl))) a1 ai_eq (fun i hi => ?_) (fun i hi => ?_) (fun i hi => ?_))
    · rw [ai_ne (by omega)]; exact et i hi
    · rw [ai_ne (by omega)]
    · rw [ai_ne (by omega)]
  · have q := of_decide_eq_false (b2i_0.mp q)
    rw [show ax_i h1 79 0 = nI (s_n S) from e4] at q
    exact hno (fun ⟨n, h1, h2⟩ => q ⟨by rw [h2]; exact nI_pos' (by omega), by rw [h2]; exact nI_le h1 (by omega)⟩) h1 hs1
/-! FAULT -/
def s_fault (S : sT) (x : Int32) : Int32 := if x = 0 then s_f S else if x = 1 then s_p S else -1
theorem q9_fault {x : Int32} (hx : xs_st h) (a : tl_at h 1 S) (hq : Ret (some (.int (s_fault S x))) h) : mX9_fault g [.ref 0, .int x] h Ret := by
  have t1 := a.1.1.1
  unfold s_fault at hq
  refine eX9_fault ⟨fun q => ⟨fun q2 => ?_, fun q2 => ⟨hx.1, _, hx.2.1.1, t1, ?_⟩⟩, fun q => ⟨hx.1, _, hx.2.1.1, t1, ?_⟩⟩
  · rw [if_neg q, if_neg q2] at hq; exact hq
  · rw [if_neg q, if_pos q2] at hq; rw [a.2.2.2.1]; exact hq
  · rw [if_pos q] at hq; rw [a.2.2.1]; exact hq
theorem q10_fault {x : Int32} {Im : Nat → Option sT} (a : mi_at h S Im) (hq : ∀ h', ax_same md_F h h' → Ret (some (.int (s_fault S x))) h') : mX10_fault g [.ref 77, .int x] h Ret := by
  have hs1 : ax_same md_F h (ax_pi h 77 0 0) := sm_pi (Or.inl rfl)
  have a1 := mi_md hs1 a
  refine eX10_fault ⟨a.1.1, ?_⟩
  revert hs1 a1
  generalize ax_pi h 77 0 0 = h1
  intro hs1 a1
  obtain ⟨m1, ⟨-, -, e3, e4, -⟩, -⟩ := id a1
  have hq := hq h1 hs1
  unfold s_fault at hq
  obtain ⟨r3, s3⟩ : ax_r h1 77 3 = some 80 ∧ ax_s h1 80 = (11, 4) := m1.2 2 _ rfl
  obtain ⟨r4, s4⟩ : ax_r h1 77 4 = some 81 ∧ ax_s h1 81 = (11, 4) := m1.2 3 _ rfl
  have in0 : vp_in (0 : Int32) 4 := vp_in_nI (n := 0) (N := 4) (by decide) (by decide)
  refine ⟨fun q => ⟨fun q2 => ?_, fun q2 => ⟨m1.1, _, r4, by rw [s4], by rw [s4]; exact in0, ?_⟩⟩, fun q => ⟨m1.1, _, r3, by rw [s3], by rw [s3]; exact in0, ?_⟩⟩
  · rw [if_neg q, if_neg q2] at hq; exact hq
  · rw [if_neg q, if_pos q2] at hq; rw [show ax_i h1 81 0 = s_p S from e4]; exact hq
  · rw [if_pos q] at hq; rw [show ax_i h1 80 0 = s_f S from e3]; exact hq
/-! COUNT -/
def s_count (z : Nat → Nat) (x : Int32) : Int32 := if sp_in x 5 then nI (z x.toNatClampNeg) else -2
theorem q9_count {x : Int32} (hx : xs_st h) (a : tl_at h 1 S) (hq : Ret (some (.int (s_count (s_z S) x))) h) : mX9_count g [.ref 0, .int x] h Ret := by
  obtain ⟨⟨t1, ⟨-, t3, -, -⟩, ⟨-, t7, -, -⟩, -, -⟩, ez, -, -⟩ := a.1
  unfold s_count at hq
  refine eX9_count ⟨fun q => ?_, fun q => ⟨fun q2 => ⟨hx.1, _, hx.2.1.1, t1, _, t3, by rw [t7], ?_, ?_⟩, fun q2 => ?_⟩⟩
  · rw [dec_f (Or.inl q)] at hq; exact hq
  · obtain ⟨j, hj, rfl⟩ := (ni_ix (n := 5) (by decide)).mp ⟨q, nt_le.mpr q2⟩
    rw [t7]; exact vp_in_nI hj (by decide)
  · obtain ⟨j, hj, rfl⟩ := (ni_ix (n := 5) (by decide)).mp ⟨q, nt_le.mpr q2⟩
    rw [sp_in_nI (by decide) hj, if_pos rfl, nI_clamp (by omega)] at hq
    rw [nI_clamp (by omega), (ez j hj).2]; exact hq
  · rw [dec_f (Or.inr (nt_lt.mp q2))] at hq; exact hq
theorem q10_count {x : Int32} {Im : Nat → Option sT} (a : mi_at h S Im) (hq : ∀ h', ax_same md_F h h' → Ret (some (.int (s_count (s_z S) x))) h') : mX10_count g [.ref 77, .int x] h Ret := by
  have hs1 : ax_same md_F h (ax_pi h 77 0 0) := sm_pi (Or.inl rfl)
  have a1 := mi_md hs1 a
  refine eX10_count ⟨a.1.1, ?_⟩
  revert hs1 a1
  generalize ax_pi h 77 0 0 = h1
  intro hs1 a1
  have hq := hq h1 hs1
  unfold s_count at hq
  obtain ⟨m1, ⟨⟨ez, -, -⟩, -, -, -, -⟩, -⟩ := id a1
  obtain ⟨r5, s5⟩ : ax_r h1 77 5 = some 82 ∧ ax_s h1 82 = (11, 20) := m1.2 4 _ rfl
  have q5 : mX10_in g [.int x, .int 0, .int (nI 5 - 1)] h1 (fun v3 h2 => (∃ r4 : Int32, v3 = some (.int r4) ∧ ((r4 = 0 → Ret (some (.int (-2))) h2) ∧ (¬ (r4 = 0) → ((ax_s h2 77).1 = 10 ∧ (∃ b5 : Nat, ax_r h2 77 5 = some b5 ∧ ((ax_s h2 b5).1 = 11 ∧ (vp_in x (ax_s h2 b5).2 ∧ Ret (some (.int (ax_i h2 b5 x.toNatClampNeg))) h2))))))))  := by
    refine c_minN (by decide) ⟨_, rfl, fun q => ?_, fun q => ?_⟩
    · rw [b2i_0.mp q] at hq; exact hq
    · rw [b2i_n0.mp q, if_pos rfl] at hq
      obtain ⟨j, hj, rfl⟩ := sp_in_ix (by decide) (b2i_n0.mp q)
      rw [nI_clamp (by omega)] at hq
      refine ⟨m1.1, _, r5, by rw [s5], by rw [s5]; exact vp_in_nI (by omega) (by decide), ?_⟩
      have := ez j hj
      rw [Nat.mul_zero, Nat.zero_add] at this
      rw [nI_clamp (by omega), show ax_i h1 82 j = nI (s_z S j) from this]; exact hq
  exact q5
end
end

section
section
variable {g : ax_G} {Ret : Option Value → ax_H → Prop} {h : ax_H} {S : sT}
/-! copies -/
theorem sh_le {h : ax_H} {b k n : Nat} (e : ax_s h b = (k, n)) : 0 + n ≤ (ax_s h b).2 := by rw [e, Nat.zero_add]; exact Nat.le_refl n
theorem sh_k {h : ax_H} {b k n : Nat} (e : ax_s h b = (k, n)) : (ax_s h b).1 = k := by rw [e]
theorem cpy0 {f f' : Nat → Int32} {n k : Nat} (hk : k < n) : va_cpy f f' 0 0 n k = f k := by
  rw [pk_cpy_in (Nat.zero_le k) (by omega), Nat.zero_add, Nat.sub_zero]
theorem c_copy6 {r r' : Nat} (a : rc_st h r) (b : rc_st h r') (hd : r + 6 ≤ r' ∨ r' + 6 ≤ r) (hq : ∀ h', ax_same (rc_F r) h h' → ax_i h' r 5 = ax_i h r' 5 → ax_i h' r 6 = ax_i h r' 6 → (∀ k, k < 6 → ax_i h' (r + 1) k = ax_i h (r' + 1) k) → (∀ k, k < 6 → ax_i h' (r + 2) k = ax_i h (r' + 2) k) → (∀ k, k < 6 → ax_i h' (r + 3) k = ax_i h (r' + 3) k) → (∀ k, k < 72 → ax_i h' (r + 4) k = ax_i h (r' + 4) k) → (∀ k, k < 72 → ax_i h' (r + 5) k = ax_i h (r' + 5) k) → Ret none h') : mX6_copy g [.ref r, .ref r'] h Ret := by
  obtain ⟨a0, ⟨ar0, ar1, ar2, ar3, ar4⟩, as1, as2, as3, as4, as5⟩ := id a
  obtain ⟨b0, ⟨br0, br1, br2, br3, br4⟩, bs1, bs2, bs3, bs4, bs5⟩ := id b
  have hF : ∀ j, j < 6 → rc_F r (r + j) := fun j hj => by unfold rc_F; omega
  refine eX6_copy ⟨b0, _, br0, a0, _, ar0, sh_k as1, sh_k bs1, ⟨by decide, by decide, by decide, sh_le bs1, sh_le as1⟩, Or.inl rfl, by decide, b0, _, br1, a0, _, ar1, sh_k as2, sh_k bs2, ⟨by decide, by decide, by decide, sh_le bs2, sh_le as2⟩, Or.inl rfl, by decide, b0, _, br2, a0, _, ar2, sh_k as3, sh_k bs3, ⟨by decide, by decide, by decide, sh_le bs3, sh_le as3⟩, Or.inl rfl, by decide, b0, _, br3, a0, _, ar3, sh_k as4, sh_k bs4, ⟨by decide, by decide, by decide, sh_le bs4, sh_le as4⟩, Or.inl rfl, by decide, b0, _, br4, a0, _, ar4, sh_k as5, sh_k bs5, ⟨by decide, by decide, by decide, sh_le bs5, sh_le as5⟩, Or.inl rfl, by decide, b0, a0, b0, a0, hq _ (sm_tr (sm_tr (sm_tr (sm_tr (sm_tr (sm_tr (sm_row (hF 1 (by decide))) (sm_row (hF 2 (by decide)))) (sm_row (hF 3 (by decide)))) (sm_row (hF 4 (by decide)))) (sm_row (hF 5 (by decide)))) (sm_pi (hF 0 (by decide)))) (sm_pi (hF 0 (by decide)))) ?_ ?_ (fun k hk => ?_) (fun k hk => ?_) (fun k hk => ?_) (fun k hk => ?_) (fun k hk => ?_)⟩
  · rw [ai_ne (by omega), ai_eq, ai_row, if_neg (by omega), ai_row, if_neg (by omega), ai_row, if_neg (by omega), ai_row, if_neg (by omega), ai_row, if_neg (by omega)]
  · rw [ai_eq, ai_ne (by omega), ai_row, if_neg (by omega), ai_row, if_neg (by omega), ai_row, if_neg (by omega), ai_row, if_neg (by omega), ai_row, if_neg (by omega)]
  · rw [ai_ne (by omega), ai_ne (by omega), ai_row, if_neg (by omega), ai_row, if_neg (by omega), ai_row, if_neg (by omega), ai_row, if_neg (by omega), ai_row, if_pos rfl, cpy0 hk]
  · rw [ai_ne (by omega), ai_ne (by omega), ai_row, if_neg (by omega), ai_row, if_neg (by omega), ai_row, if_neg (by omega), ai_row, if_pos rfl, cpy0 hk, ai_row, if_neg (by omega)]
  · rw [ai_ne (by omega), ai_ne (by omega), ai_row, if_neg (by omega), ai_row, if_neg (by omega), ai_row, if_pos rfl, cpy0 hk, ai_row, if_neg (by omega), ai_row, if_neg (by omega)]
  · rw [ai_ne (by omega), ai_ne (by omega), ai_row, if_neg (by omega), ai_row, if_pos rfl, cpy0 hk, ai_row, if_neg (by omega), ai_row, if_neg (by omega), ai_row, if_neg (by omega)]
  · rw [ai_ne (by omega), ai_ne (by omega), ai_row, if_pos rfl, cpy0 hk, ai_row, if_neg (by omega), ai_row, if_neg (by omega), ai_row, if_neg (by omega), ai_row, if_neg (by omega)]
/-- a republic copied -/
theorem rc_copied {h' : ax_H} {r r' : Nat} {D : rD} (st : rc_st h' r) (b : rc_at h r' D) (e5 : ax_i h' r 5 = ax_i h r' 5) (e6 : ax_i h' r 6 = ax_i h r' 6) (e1 : ∀ k, k < 6 → ax_i h' (r + 1) k = ax_i h (r' + 1) k) (e2 : ∀ k, k < 6 → ax_i h' (r + 2) k = ax_i h (r' + 2) k) (e3 : ∀ k, k < 6 → ax_i h' (r + 3) k = ax_i h (r' + 3) k) (e4 : ∀ k, k < 72 → ax_i h' (r + 4) k = ax_i h (r' + 4) k) (e7 : ∀ k, k < 72 → ax_i h' (r + 5) k = ax_i h (r' + 5) k) : rc_at h' r D := by
  obtain ⟨-, a2, a3, a4, a5, a6, a7, a8⟩ := b
  exact ⟨st, a2, ⟨by rw [e5]; exact a3.1, by rw [e6]; exact a3.2⟩, fun k hk => by rw [e1 k hk]; exact a4 k hk, fun k hk => by rw [e2 k hk]; exact a5 k hk, fun p hp => by rw [e3 p (by omega)]; exact a6 p hp, fun p q hp hq => by rw [e4 _ (by omega)]; exact a7 p q hp hq, fun p q hp hq => by rw [e7 _ (by omega)]; exact a8 p q hp hq⟩
theorem c_copy2 {l l' s : Nat} (h1 : 1 ≤ s) (h5 : s < 5) (a : li_st h l s) (b : li_st h l' s) (hd : l + 2 ≤ l' ∨ l' + 2 ≤ l) (hq : ∀ h', ax_same (fun x => x = l ∨ x = l + 1) h h' → li_st h' l s → ax_i h' l 3 = ax_i h l' 3 → (∀ k, k < lm s * lw s → ax_i h' (l + 1) k = ax_i h (l' + 1) k) → Ret none h') : mX2_copy g [.ref l, .ref l'] h Ret := by
  obtain ⟨a0, ar, ai0, ai1, as1⟩ := id a
  obtain ⟨b0, br, bi0, bi1, bs1⟩ := id b
  have hb := lm_lw h1 h5
  have el : Int32.ofNat (ax_s h (l + 1)).2 = nI (lm s * lw s) := by rw [as1]; rfl
  refine eX2_copy ⟨b0, _, br, sh_k bs1, a0, _, ar, sh_k as1, fun q => absurd (by rw [as1, bs1]) q, fun _ => ⟨b0, _, br, a0, _, ar, a0, _, ar, sh_k as1, sh_k as1, sh_k bs1, ?_⟩⟩
  rw [el, nI_clamp (by omega)]
  refine ⟨⟨by decide, by decide, nI_pos (by omega), sh_le bs1, sh_le as1⟩, Or.inl rfl, by decide, b0, a0, hq _ (sm_tr (sm_row (Or.inr rfl)) (sm_pi (Or.inl rfl))) ⟨a0, ar, ?_, ?_, as1⟩ ?_ (fun k hk => ?_)⟩
  · rw [ai_ne (by omega), ai_row, if_neg (by omega)]; exact ai0
  · rw [ai_ne (by omega), ai_row, if_neg (by omega)]; exact ai1
  · rw [ai_eq, ai_row, if_neg (by omega)]
  · rw [ai_ne (by omega), ai_row, if_pos rfl, cpy0 hk]
theorem li_copied {h' : ax_H} {l l' s n : Nat} {C : Nat → Nat → Int32} (st : li_st h' l s) (b : li_at h l' s n C) (e3 : ax_i h' l 3 = ax_i h l' 3) (ec : ∀ k, k < lm s * lw s → ax_i h' (l + 1) k = ax_i h (l' + 1) k) : li_at h' l s n C := by
  obtain ⟨-, b1, b2, b3⟩ := b
  refine ⟨st, b1, by rw [e3]; exact b2, fun i j hi hj => ?_⟩
  have hlt : i * lw s + j < lm s * lw s := by
    have : (i + 1) * lw s ≤ lm s * lw s := Nat.mul_le_mul_right _ (by omega)
    rw [Nat.succ_mul] at this
    omega
  rw [ec _ hlt]; exact b3 i j hi hj
theorem c_copyRep {r r' : Nat} (a : rc_st h r) (b : rc_st h r') (hd : r + 6 ≤ r' ∨ r' + 6 ≤ r) (hq : ∀ h', ax_same (rc_F r) h h' → (∀ D, rc_at h r' D → rc_at h' r D) → Ret none h') : mX8_copyRepublic g [.ref r', .ref r] h Ret :=
  eX8_copyRepublic ⟨a.1, c_copy6 a b hd (fun h' hs e5 e6 e1 e2 e3 e4 e7 => ⟨rfl, hq h' hs (fun D hD => rc_copied (rc_st_same hs a) hD e5 e6 e1 e2 e3 e4 e7)⟩)⟩
theorem c_copyLin {l l' s : Nat} (h1 : 1 ≤ s) (h5 : s < 5) (a : li_st h l s) (b : li_st h l' s) (hd : l + 2 ≤ l' ∨ l' + 2 ≤ l) (hq : ∀ h', ax_same (fun x => x = l ∨ x = l + 1) h h' → li_st h' l s → (∀ n C, li_at h l' s n C → li_at h' l s n C) → Ret none h') : mX8_copyLines g [.ref l', .ref l] h Ret :=
  eX8_copyLines ⟨a.1, c_copy2 h1 h5 a b hd (fun h' hs st e3 ec => ⟨rfl, hq h' hs st (fun n C hL => li_copied st hL e3 ec)⟩)⟩
theorem c_copyNull (hq : Ret none h) : mX8_copyLines g [.null, .null] h Ret := ax_meth (tbl := tX8_copyLines g) (by decide +kernel) (Nat.le_of_ble_eq_true rfl) (oX8_copyLines g) (fun A hA => ax_go1 hA (fun _ => false) 900 _ hq)
end
end

section
section
variable {g : ax_G} {Ret : Option Value → ax_H → Prop} {h : ax_H} {S : sT}
theorem to_st_F {F : Nat → Prop} {h' : ax_H} {t : Nat} (hs : ax_same F h h') (hl : ∀ s k, 1 ≤ s → s < 5 → k < 2 → li_st h' (lnp t s k) s) (a : to_st h t) : to_st h' t := by
  obtain ⟨c1, ⟨c2, c3, c4, c5⟩, ⟨d1, d2, d3, d4⟩, f1, f2⟩ := a
  exact ⟨by rw [hs.2.1]; exact c1, ⟨by rw [hs.2.2.1]; exact c2, by rw [hs.2.2.1]; exact c3, by rw [hs.2.2.1]; exact c4, by rw [hs.2.2.1]; exact c5⟩, ⟨by rw [hs.2.1]; exact d1, by rw [hs.2.1]; exact d2, by rw [hs.2.1]; exact d3, by rw [hs.2.1]; exact d4⟩, fun k hk => ⟨by rw [hs.2.2.1]; exact (f1 k hk).1, rc_st_same hs (f1 k hk).2⟩, fun q k h1 h5 hk => ⟨by rw [hs.2.2.1]; exact (f2 q k h1 h5 hk).1, hl q k h1 h5 hk⟩⟩
theorem to_li {t s k : Nat} (a : to_st h t) (h1 : 1 ≤ s) (h5 : s < 5) (hk : k < 2) : li_st h (lnp t s k) s := (a.2.2.2.2 s k h1 h5 hk).2
theorem c_copy8 {t t' : Nat} (a : to_st h t) (n0 : ax_r h (t + 4) 0 = none) (n1 : ax_r h (t + 4) 1 = none) (b : tl_at h t' S) (ok : tyb (s_t S)) (hd : t + 33 ≤ t' ∨ t' + 33 ≤ t) (hq : ∀ h', ax_same (to_F t) h h' → tl_at h' t S → Ret none h') : mX8_copy g [.ref t, .ref t'] h Ret := by
  have src : ∀ hh : ax_H, ax_same (to_F t) h hh → tl_at hh t' S := fun hh hs => tl_at_ag (P := fun x => t' ≤ x ∧ x < t' + 33) (ag_same hs (fun x hx q => by unfold to_F at q; omega)) (fun x h1 h2 => ⟨h1, h2⟩) b
  have zb : ∀ s, s < 5 → s_z S s ≤ 2 := fun s hs => (b.1.2.1 s hs).1
  refine uX8_copy (fun A hA => ?_)
  have loop2 : ∀ n i : Nat, i + n = 10 → ∀ hh : ax_H, ax_same (to_F t) h hh → to_st hh t → (∀ j, j < 600 → ax_i hh (t + 1) j = s_t S j) → (∀ s, s < 5 → ax_i hh (t + 2) s = nI (s_z S s)) → (∀ k, k < s_z S 0 → rc_at hh (t + 5 + 14 * k) (s_D S k)) → (∀ s k, 1 ≤ s → s < 5 → s * 2 + k < i → k < s_z S s → li_at hh (lnp t s k) s (s_N S s k) (s_C S s k)) → A (60, [some (.ref t), some (.ref t'), some (.int (nI i))], [], hh, 0, 0) := by
    intro n
    induction n with
    | zero =>
      intro i hi hh hs st et ez er el
      obtain ⟨⟨⟨t1, -, -, -, -⟩, -, -, -⟩, b4, b5, b6, -, -, -⟩ := src hh hs
      refine vX8_copy_60 hA ⟨fun _ => ⟨t1, st.1, t1, st.1, t1, st.1, ?_⟩, fun q => absurd (nI_le (a := 10) (b := i) (by omega) (by omega)) q⟩
      have e4 : ax_i hh t' 4 = nI (s_n S) := b4
      have e5 : ax_i (ax_pi hh t 4 (ax_i hh t' 4)) t' 5 = s_f S := by rw [ai_ne (by omega)]; exact b5
      have e6 : ax_i (ax_pi (ax_pi hh t 4 (ax_i hh t' 4)) t 5 (ax_i (ax_pi hh t 4 (ax_i hh t' 4)) t' 5)) t' 6 = s_p S := by rw [ai_ne (by omega), ai_ne (by omega)]; exact b6
      have hF : to_F t t := by unfold to_F; omega
      have hs3 : ax_same (fun x => x = t) hh (ax_pi (ax_pi (ax_pi hh t 4 (ax_i hh t' 4)) t 5 (ax_i (ax_pi hh t 4 (ax_i hh t' 4)) t' 5)) t 6 (ax_i (ax_pi (ax_pi hh t 4 (ax_i hh t' 4)) t 5 (ax_i (ax_pi hh t 4 (ax_i hh t' 4)) t' 5)) t' 6)) := sm_tr (sm_tr (sm_pi rfl) (sm_pi rfl)) (sm_pi rfl)
      have g3 : ag (fun x => x ≠ t) hh _ := ag_same hs3 (fun x hx => hx)
      refine hq _ (sm_tr hs (sm_mono hs3 (fun x hx => by rw [hx]; exact hF))) ⟨⟨to_st_F hs3 (fun s k h1 h5 hk => li_st_same hs3 (by unfold lnp; omega) (to_li st h1 h5 hk)) st, fun s hs5 => ⟨zb s hs5, by rw [(g3 (t + 2) (by omega)).2.1]; exact ez s hs5⟩, fun k hk => rc_at_ag g3 (fun j hj => by omega) (er k hk), fun s k h1 h5 hk => li_at_ag g3 (by unfold lnp; omega) (el s k h1 h5 (by have := zb s h5; omega) hk)⟩, ?_, ?_, ?_, fun j hj => by rw [(g3 (t + 1) (by omega)).2.1]; exact et j hj, by rw [hs3.2.2.1, hs.2.2.1]; exact n0, by rw [hs3.2.2.1, hs.2.2.1]; exact n1⟩
      · rw [ai_ne (by omega), ai_ne (by omega), ai_eq]; exact e4
      · rw [ai_ne (by omega), ai_eq]; exact e5
      · rw [ai_eq]; exact e6
    | succ n ih =>
      intro i hi hh hs st et ez er el
      have sb := src hh hs
      obtain ⟨⟨⟨t1, ⟨-, -, -, r3⟩, ⟨-, -, -, s4⟩, -, l4⟩, -, -, -⟩, -, -, -, -, m0, m1⟩ := id sb
      obtain ⟨u1, ⟨-, -, -, v3⟩, ⟨-, -, -, w4⟩, -, y4⟩ := id st
      have in1 : vp_in (nI i) (ax_s hh (t' + 4)).2 := by rw [s4]; exact vp_in_nI (by omega) (by decide)
      have in2 : vp_in (nI i) (ax_s hh (t + 4)).2 := by rw [w4]; exact vp_in_nI (by omega) (by decide)
      refine vX8_copy_60 hA ⟨fun q => absurd q (nI_ge (a := i) (b := 10) (by omega) (by decide)), fun _ => ⟨t1, _, r3, sh_k s4, in1, fun b1 hb1 => ⟨u1, _, v3, sh_k w4, in2, fun b2 hb2 => ?_, fun hb2 => ?_⟩, fun hb1 => ⟨u1, _, v3, sh_k w4, in2, fun b2 hb2 => ?_, fun hb2 => ?_⟩⟩⟩
      · rw [nI_clamp (by omega)] at hb1 hb2
        rcases Nat.lt_or_ge i 2 with i2 | i2
        · exfalso
          rcases (show i = 0 ∨ i = 1 by omega) with rfl | rfl
          · rw [m0] at hb1; cases hb1
          · rw [m1] at hb1; cases hb1
        obtain ⟨s, k, h1, h5, hk, rfl⟩ : ∃ s k, 1 ≤ s ∧ s < 5 ∧ k < 2 ∧ i = s * 2 + k := ⟨i / 2, i % 2, by omega, by omega, by omega, by omega⟩
        obtain ⟨p1, p2⟩ := l4 s k h1 h5 hk
        obtain ⟨p3, p4⟩ := y4 s k h1 h5 hk
        rw [p1] at hb1; cases hb1
        rw [p3] at hb2; cases hb2
        refine c_copyLin h1 h5 p4 p2 (by unfold lnp; omega) (fun h' hs' st' cp => ⟨rfl, ?_⟩)
        rw [← nI_succ]
        have g' : ag (fun x => ¬ (x = lnp t s k ∨ x = lnp t s k + 1)) hh h' := ag_same hs' (fun x hx => hx)
        refine ih (s * 2 + k + 1) (by omega) h' (sm_tr hs (sm_mono hs' (fun x hx => by unfold to_F; unfold lnp at hx; omega))) (to_st_F hs' (fun s' k' h1' h5' hk' => ?_) st) (fun j hj => by rw [(g' (t + 1) (by unfold lnp; omega)).2.1]; exact et j hj) (fun s' hs5 => by rw [(g' (t + 2) (by unfold lnp; omega)).2.1]; exact ez s' hs5) (fun k' hk' => rc_at_ag g' (fun j hj => by
          have z2 := zb 0 (by decide)
          have k2 : k' = 0 ∨ k' = 1 := by omega
          unfold lnp
          clear hi hs' cp hs st et ez er el ih sb
          rcases k2 with rfl | rfl <;> omega) (er k' hk')) (fun s' k' h1' h5' hlt hk' => ?_)
        · by_cases e : s' = s ∧ k' = k
          · obtain ⟨rfl, rfl⟩ := e; exact st'
          · exact li_st_same hs' (by unfold lnp; omega) (to_li st h1' h5' hk')
        · by_cases e : s' = s ∧ k' = k
          · obtain ⟨rfl, rfl⟩ := e
            exact cp _ _ (sb.1.2.2.2 s' k' h1' h5' hk')
          · have := zb s' h5'
            exact li_at_ag g' (by unfold lnp; omega) (el s' k' h1' h5' (by omega) hk')
      · exfalso
        rw [nI_clamp (by omega)] at hb1 hb2
        rcases Nat.lt_or_ge i 2 with i2 | i2
        · rcases (show i = 0 ∨ i = 1 by omega) with rfl | rfl
          · rw [m0] at hb1; cases hb1
          · rw [m1] at hb1; cases hb1
        · have := (y4 (i / 2) (i % 2) (by omega) (by omega) (by omega)).1
          rw [show i / 2 * 2 + i % 2 = i by omega, hb2] at this
          cases this
      · exfalso
        rw [nI_clamp (by omega)] at hb1 hb2
        rcases Nat.lt_or_ge i 2 with i2 | i2
        · rcases (show i = 0 ∨ i = 1 by omega) with rfl | rfl
          · rw [hs.2.2.1, n0] at hb2; cases hb2
          · rw [hs.2.2.1, n1] at hb2; cases hb2
        · have := (l4 (i / 2) (i % 2) (by omega) (by omega) (by omega)).1
          rw [show i / 2 * 2 + i % 2 = i by omega, hb1] at this
          cases this
      · rw [nI_clamp (by omega)] at hb1
        refine c_copyNull ⟨rfl, ?_⟩
        rw [← nI_succ]
        have i2 : i < 2 := by
          rcases Nat.lt_or_ge i 2 with i2 | i2
          · exact i2
          · have := (l4 (i / 2) (i % 2) (by omega) (by omega) (by omega)).1
            rw [show i / 2 * 2 + i % 2 = i by omega, hb1] at this
            cases this
        exact ih (i + 1) (by omega) hh hs st et ez er (fun s k h1 h5 hlt hk => absurd hlt (by omega))
  have loop1 : ∀ n i : Nat, i + n = 2 → ∀ hh : ax_H, ax_same (to_F t) h hh → to_st hh t → (∀ j, j < 600 → ax_i hh (t + 1) j = s_t S j) → (∀ s, s < 5 → ax_i hh (t + 2) s = nI (s_z S s)) → (∀ k, k < i → k < s_z S 0 → rc_at hh (t + 5 + 14 * k) (s_D S k)) → A (32, [some (.ref t), some (.ref t'), some (.int (nI i))], [], hh, 0, 0) := by
    intro n
    induction n with
    | zero =>
      intro i hi hh hs st et ez er
      refine vX8_copy_32 hA ⟨fun _ => ?_, fun q => absurd (nI_le (a := 2) (b := i) (by omega) (by omega)) q⟩
      exact loop2 10 0 (by omega) hh hs st et ez (fun k hk => er k (by have := zb 0 (by decide); omega) hk) (fun s k h1 h5 hlt hk => absurd hlt (by omega))
    | succ n ih =>
      intro i hi hh hs st et ez er
      have sb := src hh hs
      obtain ⟨⟨⟨t1, ⟨-, -, r3, -⟩, ⟨-, -, s4, -⟩, l4, -⟩, -, -, -⟩, -, -, -, -, -, -⟩ := id sb
      obtain ⟨u1, ⟨-, -, v3, -⟩, ⟨-, -, w4, -⟩, y4, -⟩ := id st
      obtain ⟨p1, p2⟩ := l4 i (by omega)
      obtain ⟨p3, p4⟩ := y4 i (by omega)
      refine vX8_copy_32 hA ⟨fun q => absurd q (nI_ge (a := i) (b := 2) (by omega) (by decide)), fun _ => ⟨t1, _, r3, sh_k s4, by rw [s4]; exact vp_in_nI (by omega) (by decide), _, by rw [nI_clamp (by omega)]; exact p1, u1, _, v3, sh_k w4, by rw [w4]; exact vp_in_nI (by omega) (by decide), _, by rw [nI_clamp (by omega)]; exact p3, c_copyRep p4 p2 (by omega) (fun h' hs' cp => ⟨rfl, ?_⟩)⟩⟩
      rw [← nI_succ]
      have g' : ag (fun x => ¬ rc_F (t + 5 + 14 * i) x) hh h' := ag_same hs' (fun x hx => hx)
      refine ih (i + 1) (by omega) h' (sm_tr hs (sm_mono hs' (fun x hx => by unfold to_F; unfold rc_F at hx; omega))) (to_st_F hs' (fun s' k' h1' h5' hk' => li_st_same hs' (by unfold rc_F lnp; omega) (to_li st h1' h5' hk')) st) (fun j hj => by rw [(g' (t + 1) (by unfold rc_F; omega)).2.1]; exact et j hj) (fun s' hs5 => by rw [(g' (t + 2) (by unfold rc_F; omega)).2.1]; exact ez s' hs5) (fun k' hlt hk' => ?_)
      by_cases e : k' = i
      · subst e; exact cp _ (sb.1.2.2.1 k' hk')
      · exact rc_at_ag g' (fun j hj => by unfold rc_F; omega) (er k' (by omega) hk')
  obtain ⟨⟨⟨t1, ⟨r0, r1, -, -⟩, ⟨s1, s2, -, -⟩, -, -⟩, ez, -, -⟩, -, -, -, et, -, -⟩ := id b
  obtain ⟨u1, ⟨v0, v1, -, -⟩, ⟨w1, w2, -, -⟩, -, -⟩ := id a
  refine vX8_copy_0 hA ⟨t1, _, r0, u1, _, v0, sh_k w1, sh_k s1, ⟨by decide, by decide, by decide, sh_le s1, sh_le w1⟩, Or.inr (fun i hi => by rw [Nat.zero_add, et i hi]; exact ok i hi), by decide, t1, _, r1, u1, _, v1, sh_k w2, sh_k s2, ⟨by decide, by decide, by decide, sh_le s2, sh_le w2⟩, Or.inl rfl, by decide, ?_⟩
  have hs2 : ax_same (fun x => x = t + 1 ∨ x = t + 2) h (ax_row (ax_row h (t + 1) (va_cpy (ax_i h (t' + 1)) (ax_i h (t + 1)) 0 0 600)) (t + 2) (va_cpy (ax_i (ax_row h (t + 1) (va_cpy (ax_i h (t' + 1)) (ax_i h (t + 1)) 0 0 600)) (t' + 2)) (ax_i (ax_row h (t + 1) (va_cpy (ax_i h (t' + 1)) (ax_i h (t + 1)) 0 0 600)) (t + 2)) 0 0 5)) := sm_tr (sm_row (Or.inl rfl)) (sm_row (Or.inr rfl))
  refine loop1 2 0 (by omega) _ (sm_mono hs2 (fun x hx => by unfold to_F; omega)) (to_st_F hs2 (fun s' k' h1' h5' hk' => li_st_same hs2 (by unfold lnp; omega) (to_li a h1' h5' hk')) a) (fun j hj => ?_) (fun s hs5 => ?_) (fun k hk => absurd hk (Nat.not_lt_zero k))
  · rw [ai_row, if_neg (by omega), ai_row, if_pos rfl, cpy0 hj]; exact et j hj
  · rw [ai_row, if_pos rfl, cpy0 hs5, ai_row, if_neg (by omega)]; exact (ez s hs5).2
end
end

section
section
variable {g : ax_G} {Ret : Option Value → ax_H → Prop} {h : ax_H} {S : sT} {Im : Nat → Option sT} {tp : Nat → Nat}
def im_set (Im : Nat → Option sT) (k : Nat) (S : sT) : Nat → Option sT := fun j => if j = k then some S else Im j
theorem xs_st_ag' {n : Nat} {h h' : ax_H} (s : ag (fun b => b ≠ 34 ∧ b < n) h h') (hn : 77 ≤ n) (a : xs_st h) : xs_st h' := by
  obtain ⟨a1, ⟨b0, b1, b2, b3, b4, b5, b6, b7, b8⟩, c1, c2, c3, c4⟩ := a
  have e0 := s 0 (by omega)
  exact ⟨by rw [e0.1]; exact a1, ⟨by rw [e0.2.2.2]; exact b0, by rw [e0.2.2.2]; exact b1, by rw [e0.2.2.2]; exact b2, by rw [e0.2.2.2]; exact b3, by rw [e0.2.2.2]; exact b4, by rw [e0.2.2.2]; exact b5, by rw [e0.2.2.2]; exact b6, by rw [e0.2.2.2]; exact b7, by rw [e0.2.2.2]; exact b8⟩, co_st_ag s (by omega) c1, od_st_ag s (by omega) c2, od_st_ag s (by omega) c3, by rw [(s 76 (by omega)).1]; exact c4⟩
theorem ix3 {x : Int32} (h1 : ¬ x < 0) (h2 : x < 3) : ∃ k : Nat, k < 3 ∧ x = nI k := (ni_ix (n := 3) (by decide)).mp ⟨h1, nt_le.mpr h2⟩
theorem q9_image {x : Int32} (a : ci_at h S Im tp) (ok : s_ok S) (hz : 103 ≤ h.1) (hz2 : h.1 < 700000) (hno : (x < 0 ∨ 3 ≤ x) → Ret (some (.int 0)) h) (hq : ∀ k, k < 3 → x = nI k → ∀ h' tp', h.1 ≤ h'.1 → h'.1 ≤ h.1 + 33 → ag (fun b => 77 ≤ b ∧ b ≤ 102) h h' → ci_at h' S (im_set Im k S) tp' → Ret (some (.int 1)) h') : mX9_image g [.ref 0, .int x] h Ret := by
  obtain ⟨⟨x1, x2, x3, x4, x5, x6, x7, x8⟩, a2, a3, a4⟩ := id a
  refine eX9_image ⟨fun q => ⟨⟨by decide, by decide⟩, Or.inl rfl, hno (Or.inl q)⟩, fun q => ⟨fun q2 => ⟨x1.1, _, x1.2.1.2.1, sh_k x6, ?_, fun b2 hb2 => ⟨x1.1, _, x1.2.1.1, ⟨by decide, by decide, by decide⟩, ?_⟩, fun hb2 => ⟨⟨by omega, by decide, by decide⟩, rfl, ⟨by simp [Value.category], by decide, by decide⟩, by rw [as_nw, if_pos rfl], ?_⟩⟩, fun q2 => ⟨⟨by decide, by decide⟩, Or.inl rfl, hno (Or.inr (nt_lt.mp q2))⟩⟩⟩
  · obtain ⟨k, hk, rfl⟩ := ix3 q q2
    rw [x6]; exact vp_in_nI hk (by decide)
  · obtain ⟨k, hk, rfl⟩ := ix3 q q2
    rw [nI_clamp (by omega)] at hb2
    cases hI : Im k with
    | none => rw [(a3 k hk).1 hI] at hb2; cases hb2
    | some S' =>
      obtain ⟨b1, b2', b3, b4⟩ := (a3 k hk).2 S' hI
      rw [b1] at hb2; cases hb2
      refine ⟨b4.1.1.1, c_copy8 b4.1.1 b4.2.2.2.2.2.1 b4.2.2.2.2.2.2 a2 ok.2.2 (by omega) (fun h' hs tl => ⟨rfl, ⟨by decide, by decide⟩, Or.inr rfl, ?_⟩)⟩
      have gg : ag (fun b => ¬ to_F (tp k) b) h h' := ag_same hs (fun x hx => hx)
      refine hq k hk rfl h' tp (by rw [hs.1]; exact Nat.le_refl _) (by rw [hs.1]; omega) (ag_mono gg (fun x hx => by unfold to_F; omega)) ⟨cs_st_ag gg (fun b hb => by unfold to_F; omega) a.1, tl_at_ag gg (fun b _ hb => by unfold to_F; omega) a2, fun j hj => ?_, fun i j hi hj hne h1 h2 => a4 i j hi hj hne (fun e => h1 ?_) (fun e => h2 ?_)⟩
      · unfold im_set
        by_cases e : j = k
        · subst e
          rw [if_pos rfl]
          refine ⟨fun z => (by cases z), fun S'' z => ?_⟩
          cases z
          exact ⟨by rw [hs.2.2.1]; exact b1, b2', by rw [hs.1]; exact b3, tl⟩
        · rw [if_neg e]
          refine ⟨fun z => by rw [hs.2.2.1]; exact (a3 j hj).1 z, fun S'' z => ?_⟩
          obtain ⟨c1, c2, c3, c4⟩ := (a3 j hj).2 S'' z
          have hdd := a4 j k hj hk e (by rw [z]; intro q; cases q) (by rw [hI]; intro q; cases q)
          exact ⟨by rw [hs.2.2.1]; exact c1, c2, by rw [hs.1]; exact c3, tl_at_ag gg (fun b h1 h2 => by unfold to_F; omega) c4⟩
      · unfold im_set
        by_cases e2 : i = k
        · subst e2; rw [hI] at e; cases e
        · rw [if_neg e2]; exact e
      · unfold im_set
        by_cases e2 : j = k
        · subst e2; rw [hI] at e; cases e
        · rw [if_neg e2]; exact e
  · obtain ⟨k, hk, rfl⟩ := ix3 q q2
    rw [nI_clamp (by omega)] at hb2
    have hI : Im k = none := by
      cases hI : Im k with
      | none => rfl
      | some S' => rw [((a3 k hk).2 S' hI).1] at hb2; cases hb2
    have hnw : (ax_nw h 8 0).1 = h.1 + 1 := rfl
    refine c_init8 (t := h.1) hnw (by omega) (by rw [as_nw, if_pos rfl]) (fun h2 g2 n2 st2 z2 m0 m1 => ⟨rfl, ?_⟩)
    have g2' : ag (fun b => b < h.1) h h2 := ag_tr (ag_nw (by omega)) g2
    have X2 := xs_st_ag g2' (fun b hb => by omega) x1
    have s34 : ax_s h2 34 = (18, 3) := by rw [(g2' 34 (by omega)).1]; exact x6
    refine ⟨X2.1, _, X2.2.1.2.1, sh_k s34, st2.1, by rw [s34]; exact vp_in_nI hk (by decide), ?_⟩
    rw [nI_clamp (by omega)]
    have hp : ag (fun b => b ≠ 34) h2 (ax_pr h2 34 k (some h.1)) := ag_pr (fun q => q rfl)
    have gp : ag (fun b => b ≠ 34 ∧ b < h.1) h (ax_pr h2 34 k (some h.1)) := ag_tr (ag_mono g2' (fun x hx => hx.2)) (ag_mono hp (fun x hx => hx.1))
    have sz : (ax_pr h2 34 k (some h.1)).1 = h.1 + 33 := n2
    have r34 : ∀ j, ax_r (ax_pr h2 34 k (some h.1)) 34 j = if j = k then some h.1 else ax_r h 34 j := by
      intro j
      rw [ar_pr]
      by_cases e : j = k
      · rw [if_pos ⟨rfl, e⟩, if_pos e]
      · rw [if_neg (fun q => e q.2), if_neg e, (g2' 34 (by omega)).2.2.2]
    have s34' : ax_s (ax_pr h2 34 k (some h.1)) 34 = (18, 3) := s34
    have st3 : to_st (ax_pr h2 34 k (some h.1)) h.1 := to_st_ag hp (fun b h1 _ => by omega) st2
    have m0' : ax_r (ax_pr h2 34 k (some h.1)) (h.1 + 4) 0 = none := by rw [(hp _ (by omega)).2.2.2]; exact m0
    have m1' : ax_r (ax_pr h2 34 k (some h.1)) (h.1 + 4) 1 = none := by rw [(hp _ (by omega)).2.2.2]; exact m1
    revert gp sz r34 s34' st3 m0' m1'
    generalize ax_pr h2 34 k (some h.1) = h10
    intro gp sz r34 s34' st3 m0' m1'
    have e0 := gp 0 (by omega)
    have tl1 := tl_at_ag gp (t := 1) (fun b _ hb => by omega) a2
    refine ⟨by rw [e0.1]; exact x1.1, 1, by rw [e0.2.2.2]; exact x1.2.1.1, ⟨by decide, by decide, by decide⟩, st3.1, c_copy8 st3 m0' m1' tl1 ok.2.2 (by omega) (fun h' hs tl => ⟨rfl, ⟨by decide, by decide⟩, Or.inr rfl, ?_⟩)⟩
    have gg : ag (fun b => ¬ to_F h.1 b) h10 h' := ag_same hs (fun x hx => hx)
    have G : ag (fun b => b ≠ 34 ∧ b < h.1) h h' := ag_tr gp (ag_mono gg (fun x hx => by unfold to_F; omega))
    refine hq k hk rfl h' (fun j => if j = k then h.1 else tp j) (by rw [hs.1]; omega) (by rw [hs.1]; omega) (ag_mono G (fun x hx => by omega)) ⟨⟨xs_st_ag' G (by omega) x1, to_st_ag G (fun b _ hb => by omega) x2, re_n_ag G (fun j hj => by omega) (fun q h1 h2 => by omega) x3, pl_st_ag G (fun j hj => by omega) x4, se_n_ag G (fun j hj => by omega) x5, by rw [hs.2.1]; exact s34', by rw [(G 5 (by omega)).2.2.2]; exact x7, by rw [(G 5 (by omega)).2.2.2]; exact x8⟩, tl_at_ag G (fun b _ hb => by omega) a2, fun j hj => ?_, fun i j hi hj hne h1 h2 => ?_⟩
    · unfold im_set
      by_cases e : j = k
      · subst e
        rw [if_pos rfl]
        refine ⟨fun z => (by cases z), fun S'' z => ?_⟩
        cases z
        dsimp only
        rw [if_pos rfl]
        exact ⟨by rw [hs.2.2.1, r34, if_pos rfl], hz, by rw [hs.1]; omega, tl⟩
      · rw [if_neg e]
        dsimp only
        rw [if_neg e]
        refine ⟨fun z => by rw [hs.2.2.1, r34, if_neg e]; exact (a3 j hj).1 z, fun S'' z => ?_⟩
        obtain ⟨c1, c2, c3, c4⟩ := (a3 j hj).2 S'' z
        exact ⟨by rw [hs.2.2.1, r34, if_neg e]; exact c1, c2, by rw [hs.1]; omega, tl_at_ag G (fun b h1 h2 => by omega) c4⟩
    · unfold im_set at h1 h2
      dsimp only
      by_cases ei : i = k
      · subst ei
        have ej : j ≠ i := fun e => hne e.symm
        rw [if_neg ej] at h2
        rw [if_pos rfl, if_neg ej]
        cases hj' : Im j with
        | none => exact absurd hj' h2
        | some S'' =>
          have := ((a3 j hj).2 S'' hj').2.2.1
          omega
      · rw [if_neg ei] at h1
        rw [if_neg ei]
        by_cases ej : j = k
        · subst ej
          rw [if_pos rfl]
          cases hi' : Im i with
          | none => exact absurd hi' h1
          | some S'' =>
            have := ((a3 i hi).2 S'' hi').2.2.1
            omega
        · rw [if_neg ej] at h2
          rw [if_neg ej]
          exact a4 i j hi hj hne h1 h2
theorem q9_again {x : Int32} (a : ci_at h S Im tp) (iok : im_ok Im) (hno : ((x < 0 ∨ 3 ≤ x) ∨ ∃ k, k < 3 ∧ x = nI k ∧ Im k = none) → Ret (some (.int 0)) h) (hq : ∀ k S', k < 3 → x = nI k → Im k = some S' → ∀ h', h'.1 = h.1 → ag (fun b => 77 ≤ b ∧ b ≤ 102) h h' → ci_at h' S' Im tp → Ret (some (.int 1)) h') : mX9_again g [.ref 0, .int x] h Ret := by
  obtain ⟨⟨x1, x2, x3, x4, x5, x6, x7, x8⟩, a2, a3, a4⟩ := id a
  refine eX9_again ⟨fun q => ⟨Or.inl rfl, hno (Or.inl (Or.inl q))⟩, fun q => ⟨fun q2 => ⟨x1.1, _, x1.2.1.2.1, sh_k x6, ?_, fun b2 hb2 => ⟨x1.1, _, x1.2.1.1, x2.1, ?_⟩, fun hb2 => ⟨Or.inl rfl, ?_⟩⟩, fun q2 => ⟨Or.inl rfl, hno (Or.inl (Or.inr (nt_lt.mp q2)))⟩⟩⟩
  · obtain ⟨k, hk, rfl⟩ := ix3 q q2
    rw [x6]; exact vp_in_nI hk (by decide)
  · obtain ⟨k, hk, rfl⟩ := ix3 q q2
    rw [nI_clamp (by omega)] at hb2
    cases hI : Im k with
    | none => rw [(a3 k hk).1 hI] at hb2; cases hb2
    | some S' =>
      obtain ⟨b1, b2', b3, b4⟩ := (a3 k hk).2 S' hI
      rw [b1] at hb2; cases hb2
      refine c_copy8 x2 x7 x8 b4 (iok k S' hk hI).2.2 (by omega) (fun h' hs tl => ⟨rfl, Or.inr rfl, ?_⟩)
      have gg : ag (fun b => ¬ to_F 1 b) h h' := ag_same hs (fun x hx => hx)
      refine hq k S' hk rfl hI h' hs.1 (ag_mono gg (fun x hx => by unfold to_F; omega)) ⟨⟨xs_st_same hs x1, tl.1.1, re_n_ag gg (fun j hj => by unfold to_F; omega) (fun q h1 h2 => by unfold to_F; omega) x3, pl_st_same hs x4, se_st_same hs x5, by rw [hs.2.1]; exact x6, by rw [hs.2.2.1]; exact x7, by rw [hs.2.2.1]; exact x8⟩, tl, fun j hj => ⟨fun z => by rw [hs.2.2.1]; exact (a3 j hj).1 z, fun S'' z => ?_⟩, a4⟩
      obtain ⟨c1, c2, c3, c4⟩ := (a3 j hj).2 S'' z
      exact ⟨by rw [hs.2.2.1]; exact c1, c2, by rw [hs.1]; exact c3, tl_at_ag gg (fun b h1 h2 => by unfold to_F; omega) c4⟩
  · obtain ⟨k, hk, rfl⟩ := ix3 q q2
    rw [nI_clamp (by omega)] at hb2
    refine hno (Or.inr ⟨k, hk, rfl, ?_⟩)
    cases hI : Im k with
    | none => rfl
    | some S' => rw [((a3 k hk).2 S' hI).1] at hb2; cases hb2
end
end

section
section
variable {g : ax_G} {Ret : Option Value → ax_H → Prop} {h : ax_H} {S : sT} {Im : Nat → Option sT}
theorem byte_self {x : Int32} (e : fits .byte (.int x) = true) : x.toInt8.toInt32 = x := by
  have e : (-128 ≤ x ∧ x ≤ 127) := by simpa [fits] using e
  have h1 := i_le.mp e.1
  have h2 := i_le.mp e.2
  apply i_inj
  rw [Int8.toInt_toInt32, Int32.toInt_toInt8]
  exact Int.bmod_eq_of_le (by simpa using h1) (by have : x.toInt ≤ 127 := h2; simp; omega)
theorem c_mcopyRow {b n σ τ L : Nat} (s : ax_s h b = (11, L)) (h1 : n * σ + n ≤ L) (h2 : n * τ + n ≤ L) (hL : L < 100000) (hne : σ ≠ τ) (hq : ∀ h', ax_same (fun x => x = b) h h' → (∀ k, k < n → ax_i h' b (n * τ + k) = ax_i h b (n * σ + k)) → (∀ j, ¬ (n * τ ≤ j ∧ j < n * τ + n) → ax_i h' b j = ax_i h b j) → Ret none h') : mX10_copyRow g [.ref b, .int (nI n), .int (nI σ), .int (nI τ)] h Ret := by
  have dis : ∀ i k, i < n → k < n → n * σ + i ≠ n * τ + k := by
    intro i k hi hk e
    rcases Nat.lt_or_ge σ τ with q | q
    · have : n * (σ + 1) ≤ n * τ := Nat.mul_le_mul_left n q
      rw [Nat.mul_succ] at this
      omega
    · have : n * (τ + 1) ≤ n * σ := Nat.mul_le_mul_left n (by omega)
      rw [Nat.mul_succ] at this
      omega
  refine uX10_copyRow (fun A hA => vX10_copyRow_0 hA ?_)
  have key : ∀ m i : Nat, i + m = n → ∀ hh : ax_H, ax_same (fun x => x = b) h hh → (∀ k, k < i → ax_i hh b (n * τ + k) = ax_i h b (n * σ + k)) → (∀ j, ¬ (n * τ ≤ j ∧ j < n * τ + i) → ax_i hh b j = ax_i h b j) → A (3, [some (.ref b), some (.int (nI n)), some (.int (nI σ)), some (.int (nI τ)), some (.int (nI i))], [], hh, 0, 0) := by
    intro m
    induction m with
    | zero =>
      intro i hi hh hs e1 e2
      obtain rfl : i = n := by omega
      exact vX10_copyRow_3 hA ⟨fun _ => hq hh hs e1 e2, fun q => absurd (nI_le (Nat.le_refl i) (by omega)) q⟩
    | succ m ih =>
      intro i hi hh hs e1 e2
      have s' : ax_s hh b = (11, L) := by rw [hs.2.1]; exact s
      have ea : nI n * nI σ + nI i = nI (n * σ + i) := by rw [pk_mul, nI_add]
      have eb : nI n * nI τ + nI i = nI (n * τ + i) := by rw [pk_mul, nI_add]
      refine vX10_copyRow_3 hA ⟨fun q => absurd q (nI_ge (a := i) (b := n) (by omega) (by omega)), fun _ => ⟨sh_k s', by rw [ea, s']; exact vp_in_nI (by omega) (by omega), sh_k s', by rw [eb, s']; exact vp_in_nI (by omega) (by omega), ?_⟩⟩
      rw [ea, eb, nI_clamp (by omega), nI_clamp (by omega), ← nI_succ]
      refine ih (i + 1) (by omega) _ (sm_tr hs (sm_pi rfl)) (fun k hk => ?_) (fun j hj => ?_)
      · by_cases e : k = i
        · subst e
          have hne' : ¬ (n * τ ≤ n * σ + k ∧ n * σ + k < n * τ + k) := fun q => dis k (n * σ + k - n * τ) (by omega) (by omega) (by omega)
          rw [ai_eq, e2 (n * σ + k) hne']
        · rw [ai_ne (by omega)]; exact e1 k (by omega)
      · rw [ai_ne (by omega)]; exact e2 j (by omega)
  exact key n 0 (by omega) h sm_rf (fun k hk => absurd hk (Nat.not_lt_zero k)) (fun j _ => rfl)
/-- how long a part of the reference's j-th row is -/
def rwl (j : Nat) : Nat := [0, 600, 1, 1, 1, 5, 328, 30, 38, 34, 38].getD j 0
/-- its j-th row, part σ copied to part τ -/
def cpj (σ τ : Nat) (h h' : ax_H) (j : Nat) : Prop := (∀ k, k < rwl j → ax_i h' (77 + j) (rwl j * τ + k) = ax_i h (77 + j) (rwl j * σ + k)) ∧ ∀ i, ¬ (rwl j * τ ≤ i ∧ i < rwl j * τ + rwl j) → ax_i h' (77 + j) i = ax_i h (77 + j) i
theorem cpj_ag {P : Nat → Prop} {σ τ j : Nat} {h1 h2 : ax_H} (s : ag P h1 h2) (i : P (77 + j)) (a : cpj σ τ h h1 j) : cpj σ τ h h2 j := ⟨fun k hk => by rw [(s _ i).2.1]; exact a.1 k hk, fun q hq => by rw [(s _ i).2.1]; exact a.2 q hq⟩
theorem c_mcopyJ {j σ τ : Nat} (a : mo_st h 77) (hj : 2 ≤ j) (hj2 : j ≤ 10) (hσ : σ < 4) (hτ : τ < 4) (hne : σ ≠ τ) (hq : ∀ h', ax_same (fun x => x = 77 + j) h h' → cpj σ τ h h' j → Ret none h') : mX10_copyRow g [.ref (77 + j), .int (nI (rwl j)), .int (nI σ), .int (nI τ)] h Ret := by
  have key : ∀ L, ax_s h (77 + j) = (11, L) → rwl j * σ + rwl j ≤ L → rwl j * τ + rwl j ≤ L → L < 100000 → mX10_copyRow g [.ref (77 + j), .int (nI (rwl j)), .int (nI σ), .int (nI τ)] h Ret := fun L s h1 h2 hL => c_mcopyRow s h1 h2 hL hne (fun h' hs e1 e2 => hq h' hs ⟨e1, e2⟩)
  match j, hj, hj2 with
  | 2, _, _ => exact key 4 (a.2 1 _ rfl).2 (by show 1 * σ + 1 ≤ 4; omega) (by show 1 * τ + 1 ≤ 4; omega) (by decide)
  | 3, _, _ => exact key 4 (a.2 2 _ rfl).2 (by show 1 * σ + 1 ≤ 4; omega) (by show 1 * τ + 1 ≤ 4; omega) (by decide)
  | 4, _, _ => exact key 4 (a.2 3 _ rfl).2 (by show 1 * σ + 1 ≤ 4; omega) (by show 1 * τ + 1 ≤ 4; omega) (by decide)
  | 5, _, _ => exact key 20 (a.2 4 _ rfl).2 (by show 5 * σ + 5 ≤ 20; omega) (by show 5 * τ + 5 ≤ 20; omega) (by decide)
  | 6, _, _ => exact key 1312 (a.2 5 _ rfl).2 (by show 328 * σ + 328 ≤ 1312; omega) (by show 328 * τ + 328 ≤ 1312; omega) (by decide)
  | 7, _, _ => exact key 120 (a.2 6 _ rfl).2 (by show 30 * σ + 30 ≤ 120; omega) (by show 30 * τ + 30 ≤ 120; omega) (by decide)
  | 8, _, _ => exact key 152 (a.2 7 _ rfl).2 (by show 38 * σ + 38 ≤ 152; omega) (by show 38 * τ + 38 ≤ 152; omega) (by decide)
  | 9, _, _ => exact key 136 (a.2 8 _ rfl).2 (by show 34 * σ + 34 ≤ 136; omega) (by show 34 * τ + 34 ≤ 136; omega) (by decide)
  | 10, _, _ => exact key 152 (a.2 9 _ rfl).2 (by show 38 * σ + 38 ≤ 152; omega) (by show 38 * τ + 38 ≤ 152; omega) (by decide)
theorem mo_row {j : Nat} (a : mo_st h 77) (hj : 2 ≤ j) (hj2 : j ≤ 10) : ax_r h 77 j = some (77 + j) := by
  match j, hj, hj2 with
  | 2, _, _ => exact (a.2 1 _ rfl).1
  | 3, _, _ => exact (a.2 2 _ rfl).1
  | 4, _, _ => exact (a.2 3 _ rfl).1
  | 5, _, _ => exact (a.2 4 _ rfl).1
  | 6, _, _ => exact (a.2 5 _ rfl).1
  | 7, _, _ => exact (a.2 6 _ rfl).1
  | 8, _, _ => exact (a.2 7 _ rfl).1
  | 9, _, _ => exact (a.2 8 _ rfl).1
  | 10, _, _ => exact (a.2 9 _ rfl).1
theorem c_mcopyAll {σ τ : Nat} (a : mo_st h 77) (hσ : σ < 4) (hτ : τ < 4) (hne : σ ≠ τ) (hb : ∀ i, i < 600 → fits .byte (.int (ax_i h 78 (600 * σ + i))) = true) (hq : ∀ h', ax_same (fun x => 78 ≤ x ∧ x ≤ 87) h h' → (∀ j, 1 ≤ j → j ≤ 10 → cpj σ τ h h' j) → Ret none h') : mX10_copyAll g [.ref 77, .int (nI σ), .int (nI τ)] h Ret := by
  refine uX10_copyAll (fun A hA => vX10_copyAll_0 hA ?_)
  -- the rows of ints
  have rows : ∀ hh : ax_H, ax_same (fun x => x = 78) h hh → cpj σ τ h hh 1 → ∀ x3 : Int32, 600 ≤ x3 → A (2, [some (.ref 77), some (.int (nI σ)), some (.int (nI τ)), some (.int x3)], [], hh, 0, 0) := by
    intro hh hs c1 x3 hx
    have step : ∀ (j : Nat) (h1 : ax_H) (K : ax_H → Prop), 2 ≤ j → j ≤ 10 → ax_same (fun x => 78 ≤ x ∧ x < 77 + j) h h1 → (∀ i, 1 ≤ i → i < j → cpj σ τ h h1 i) → (∀ h2, ax_same (fun x => 78 ≤ x ∧ x < 77 + (j + 1)) h h2 → (∀ i, 1 ≤ i → i < j + 1 → cpj σ τ h h2 i) → K h2) → mX10_copyRow g [.ref (77 + j), .int (nI (rwl j)), .int (nI σ), .int (nI τ)] h1 (fun v h2 => v = none ∧ K h2) := by
      intro j h1 K hj hj2 s1 cc go
      refine c_mcopyJ (mo_st_same s1 a) hj hj2 hσ hτ hne (fun h2 s2 c2 => ⟨rfl, go h2 (sm_tr (sm_mono s1 (fun x hx => by omega)) (sm_mono s2 (fun x hx => by omega))) (fun i i1 i2 => ?_)⟩)
      by_cases e : i = j
      · subst e
        have e1 : ∀ k, ax_i h1 (77 + i) k = ax_i h (77 + i) k := (s1.2.2.2 _ (by omega)).1
        exact ⟨fun k hk => by rw [c2.1 k hk, e1], fun k hk => by rw [c2.2 k hk, e1]⟩
      · exact cpj_ag (P := fun x => x ≠ 77 + j) (ag_same s2 (fun x hx => hx)) (by omega) (cc i i1 (by omega))
    have S : ∀ {n : Nat} {h1 : ax_H}, ax_same (fun x => 78 ≤ x ∧ x < n) h h1 → mo_st h1 77 := fun s => mo_st_same s a
    have s2 : ax_same (fun x => 78 ≤ x ∧ x < 77 + 2) h hh := sm_mono hs (fun x hx => by omega)
    have c1' : ∀ i, 1 ≤ i → i < 2 → cpj σ τ h hh i := by
      intro i i1 i2
      have e : i = 1 := by omega
      rw [e]; exact c1
    refine vX10_copyAll_2 hA ⟨fun _ => ⟨(S s2).1, _, mo_row (S s2) (by decide) (by decide), step 2 hh _ (by decide) (by decide) s2 c1' (fun h3 s3 c3 => ⟨(S s3).1, _, mo_row (S s3) (by decide) (by decide), step 3 h3 _ (by decide) (by decide) s3 c3 (fun h4 s4 c4 => ⟨(S s4).1, _, mo_row (S s4) (by decide) (by decide), step 4 h4 _ (by decide) (by decide) s4 c4 (fun h5 s5 c5 => ⟨(S s5).1, _, mo_row (S s5) (by decide) (by decide), step 5 h5 _ (by decide) (by decide) s5 c5 (fun h6 s6 c6 => ⟨(S s6).1, _, mo_row (S s6) (by decide) (by decide), step 6 h6 _ (by decide) (by decide) s6 c6 (fun h7 s7 c7 => ⟨(S s7).1, _, mo_row (S s7) (by decide) (by decide), step 7 h7 _ (by decide) (by decide) s7 c7 (fun h8 s8 c8 => ⟨(S s8).1, _, mo_row (S s8) (by decide) (by decide), step 8 h8 _ (by decide) (by decide) s8 c8 (fun h9 s9 c9 => ⟨(S s9).1, _, mo_row (S s9) (by decide) (by decide), step 9 h9 _ (by decide) (by decide) s9 c9 (fun h10 s10 c10 => ⟨(S s10).1, _, mo_row (S s10) (by decide) (by decide), step 10 h10 _ (by decide) (by decide) s10 c10 (fun h11 s11 c11 => ?_)⟩)⟩)⟩)⟩)⟩)⟩)⟩)⟩)⟩, fun q => absurd hx q⟩
    exact hq h11 (sm_mono s11 (fun x hx => by omega)) (fun j j1 j2 => c11 j j1 (by omega))
  -- the tape
  have key : ∀ m i : Nat, i + m = 600 → ∀ hh : ax_H, ax_same (fun x => x = 78) h hh → (∀ k, k < i → ax_i hh 78 (600 * τ + k) = ax_i h 78 (600 * σ + k)) → (∀ j, ¬ (600 * τ ≤ j ∧ j < 600 * τ + i) → ax_i hh 78 j = ax_i h 78 j) → A (2, [some (.ref 77), some (.int (nI σ)), some (.int (nI τ)), some (.int (nI i))], [], hh, 0, 0) := by
    intro m
    induction m with
    | zero =>
      intro i hi hh hs e1 e2
      obtain rfl : i = 600 := by omega
      exact rows hh hs ⟨e1, e2⟩ (nI 600) (by decide)
    | succ m ih =>
      intro i hi hh hs e1 e2
      have a' := mo_st_same hs a
      obtain ⟨r1, s1⟩ : ax_r hh 77 1 = some 78 ∧ ax_s hh 78 = (12, 2400) := a'.2 0 _ rfl
      have ea : (600 : Int32) * nI σ + nI i = nI (600 * σ + i) := by rw [show (600 : Int32) = nI 600 from rfl, pk_mul, nI_add]
      have eb : (600 : Int32) * nI τ + nI i = nI (600 * τ + i) := by rw [show (600 : Int32) = nI 600 from rfl, pk_mul, nI_add]
      refine vX10_copyAll_2 hA ⟨fun q => absurd q (nI_ge (a := i) (b := 600) (by omega) (by omega)), fun _ => ⟨a'.1, _, r1, a'.1, _, r1, sh_k s1, by rw [ea, s1]; exact vp_in_nI (by omega) (by omega), sh_k s1, by rw [eb, s1]; exact vp_in_nI (by omega) (by omega), ?_⟩⟩
      rw [ea, eb, nI_clamp (by omega), nI_clamp (by omega), ← nI_succ]
      have ev : ax_i hh 78 (600 * σ + i) = ax_i h 78 (600 * σ + i) := e2 _ (by omega)
      rw [ev, byte_self (hb i (by omega))]
      refine ih (i + 1) (by omega) _ (sm_tr hs (sm_pi rfl)) (fun k hk => ?_) (fun j hj => ?_)
      · by_cases e : k = i
        · subst e; rw [ai_eq]
        · rw [ai_ne (by omega)]; exact e1 k (by omega)
      · rw [ai_ne (by omega)]; exact e2 j (by omega)
  exact key 600 0 (by omega) h sm_rf (fun k hk => absurd hk (Nat.not_lt_zero k)) (fun j _ => rfl)
end
end

section
section
variable {g : ax_G} {Ret : Option Value → ax_H → Prop} {h : ax_H} {S : sT} {Im : Nat → Option sT}
theorem rm_moved {h' : ax_H} {B B' : Nat} {D : rD} (e : ∀ o, o < 164 → ax_i h' 83 (B' + o) = ax_i h 83 (B + o)) (a : rm_at h 77 B D) : rm_at h' 77 B' D := by
  obtain ⟨⟨b1, b2⟩, a1, a2, a3, a4, a5, a6, a7⟩ := a
  have c : ∀ x y o : Nat, o < 164 → x = B' + o → y = B + o → ax_i h' (77 + 6) x = ax_i h (77 + 6) y := fun x y o ho h1 h2 => by rw [h1, h2]; exact e o ho
  exact ⟨⟨b1, b2⟩, (c _ _ 0 (by omega) rfl rfl).trans a1, (c _ _ 1 (by omega) rfl rfl).trans a2, fun p hp => (c _ (B + 2 + p) (2 + p) (by omega) (by omega) (by omega)).trans (a3 p hp), fun k hk => (c _ (B + 8 + k) (8 + k) (by omega) (by omega) (by omega)).trans (a4 k hk), fun k hk => (c _ (B + 14 + k) (14 + k) (by omega) (by omega) (by omega)).trans (a5 k hk), fun p q hp hq => (c _ (B + 20 + 12 * p + q) (20 + 12 * p + q) (by omega) (by omega) (by omega)).trans (a6 p q hp hq), fun p q hp hq => (c _ (B + 92 + 12 * p + q) (92 + 12 * p + q) (by omega) (by omega) (by omega)).trans (a7 p q hp hq)⟩
theorem lW_rwl {s : Nat} (h1 : 1 ≤ s) (h5 : s < 5) : 2 * lW s = rwl (6 + s) ∧ lm s * lw s + 1 = lW s := by
  match s, h1, h5 with
  | 1, _, _ => decide
  | 2, _, _ => decide
  | 3, _, _ => decide
  | 4, _, _ => decide
/-- part σ of all rows is told anew as part τ -/
theorem ml_moved {σ τ : Nat} {h' : ax_H} (zb : ∀ s, s < 5 → s_z S s ≤ 2) (nb : ∀ s k, 1 ≤ s → s < 5 → k < s_z S s → s_N S s k ≤ lm s) (c : ∀ j, 1 ≤ j → j ≤ 10 → ∀ k, k < rwl j → ax_i h' (77 + j) (rwl j * τ + k) = ax_i h (77 + j) (rwl j * σ + k)) (a : ml_at h 77 σ S) : ml_at h' 77 τ S := by
  obtain ⟨⟨a1, a2, a3⟩, a4, a5, a6, a7⟩ := a
  have c1 : ∀ k, k < 600 → ax_i h' 78 (600 * τ + k) = ax_i h 78 (600 * σ + k) := c 1 (by decide) (by decide)
  have c2 : ax_i h' 79 τ = ax_i h 79 σ := by have := c 2 (by decide) (by decide) 0 (by decide); rwa [show rwl 2 = 1 from rfl, Nat.one_mul, Nat.one_mul] at this
  have c3 : ax_i h' 80 τ = ax_i h 80 σ := by have := c 3 (by decide) (by decide) 0 (by decide); rwa [show rwl 3 = 1 from rfl, Nat.one_mul, Nat.one_mul] at this
  have c4 : ax_i h' 81 τ = ax_i h 81 σ := by have := c 4 (by decide) (by decide) 0 (by decide); rwa [show rwl 4 = 1 from rfl, Nat.one_mul, Nat.one_mul] at this
  have c5 : ∀ k, k < 5 → ax_i h' 82 (5 * τ + k) = ax_i h 82 (5 * σ + k) := c 5 (by decide) (by decide)
  have c6 : ∀ k, k < 328 → ax_i h' 83 (328 * τ + k) = ax_i h 83 (328 * σ + k) := c 6 (by decide) (by decide)
  refine ⟨⟨fun s hs => (c5 s hs).trans (a1 s hs), fun k hk => rm_moved (fun o ho => ?_) (a2 k hk), fun s k h1 h5 hk => ?_⟩, c2.trans a4, c3.trans a5, c4.trans a6, fun i hi => (c1 i hi).trans (a7 i hi)⟩
  · have z0 := zb 0 (by decide)
    rw [Nat.add_assoc, Nat.add_assoc]
    exact c6 (164 * k + o) (by omega)
  · obtain ⟨e1, e2⟩ := lW_rwl h1 h5
    have z := zb s h5
    have hn := nb s k h1 h5 hk
    obtain ⟨b1, b2⟩ := a3 s k h1 h5 hk
    have c7 : ∀ o, o < 2 * lW s → ax_i h' (77 + 6 + s) (2 * lW s * τ + o) = ax_i h (77 + 6 + s) (2 * lW s * σ + o) := by
      intro o ho
      have := c (6 + s) (by omega) (by omega) o (by omega)
      rw [← e1] at this
      rw [show 77 + 6 + s = 77 + (6 + s) by omega]
      exact this
    have hw : lW s * k + lW s ≤ 2 * lW s := by
      have : lW s * (k + 1) ≤ lW s * 2 := Nat.mul_le_mul_left _ (by omega)
      rw [Nat.mul_succ] at this
      omega
    refine ⟨(c7 (lW s * k) (by omega)).trans b1, fun i j hi hj => ?_⟩
    have hlt : lw s * i + j < lm s * lw s := by
      have : lw s * (i + 1) ≤ lw s * lm s := Nat.mul_le_mul_left _ (by omega)
      rw [Nat.mul_succ, Nat.mul_comm (lw s) (lm s)] at this
      omega
    have := c7 (lW s * k + 1 + lw s * i + j) (by omega)
    rw [show 2 * lW s * τ + lW s * k + 1 + lw s * i + j = 2 * lW s * τ + (lW s * k + 1 + lw s * i + j) by omega, this, show 2 * lW s * σ + (lW s * k + 1 + lw s * i + j) = 2 * lW s * σ + lW s * k + 1 + lw s * i + j by omega]
    exact b2 i j hi hj
theorem tk_nb {S : sT} (ok : s_ok S) : (∀ s, s < 5 → s_z S s ≤ 2) ∧ ∀ s k, 1 ≤ s → s < 5 → k < s_z S s → s_N S s k ≤ lm s := ⟨ok.1.1, fun s k h1 h5 hk => (ok.1.2.2 s k h1 h5 hk).1⟩
/-- the other parts stay -/
theorem ml_other {σ τ ρ : Nat} {h' : ax_H} (ok : s_ok S) (c : ∀ j, 1 ≤ j → j ≤ 10 → cpj σ τ h h' j) (hne : ρ ≠ τ) (a : ml_at h 77 ρ S) : ml_at h' 77 ρ S := by
  refine ml_moved (tk_nb ok).1 (tk_nb ok).2 (fun j j1 j2 k hk => (c j j1 j2).2 _ (fun q => ?_)) a
  rcases Nat.lt_or_ge ρ τ with z | z
  · have : rwl j * (ρ + 1) ≤ rwl j * τ := Nat.mul_le_mul_left _ z
    rw [Nat.mul_succ] at this
    omega
  · have : rwl j * (τ + 1) ≤ rwl j * ρ := Nat.mul_le_mul_left _ (by omega)
    rw [Nat.mul_succ] at this
    omega
theorem q10_image {x : Int32} (a : mi_at h S Im) (ok : s_ok S) (iok : im_ok Im) (hno : (x < 0 ∨ 3 ≤ x) → ∀ h', ax_same md_F h h' → Ret (some (.int 0)) h') (hq : ∀ k, k < 3 → x = nI k → ∀ h', ax_same (fun b => 77 ≤ b ∧ b ≤ 102) h h' → mi_at h' S (im_set Im k S) → Ret (some (.int 1)) h') : mX10_image g [.ref 77, .int x] h Ret := by
  have hs1 : ax_same md_F h (ax_pi h 77 0 0) := sm_pi (Or.inl rfl)
  have a1 := mi_md hs1 a
  refine eX10_image ⟨a.1.1, ?_⟩
  revert hs1 a1
  generalize ax_pi h 77 0 0 = h1
  intro hs1 a1
  have hs0 : ax_same (fun b => 77 ≤ b ∧ b ≤ 102) h h1 := sm_mono hs1 (fun x hx => by unfold md_F at hx; omega)
  rw [show (2 : Int32) = nI 3 - 1 from rfl]
  refine c_minN (by decide) ⟨_, rfl, fun q => ?_, fun q => ⟨Or.inl rfl, ?_⟩⟩
  · obtain ⟨k, hk, rfl⟩ := sp_in_ix (by decide) (b2i_n0.mp q)
    obtain ⟨m1, ml, mk⟩ := id a1
    refine ⟨m1.1, ?_⟩
    rw [← nI_succ]
    refine c_mcopyAll (σ := 0) (τ := k + 1) m1 (by decide) (by omega) (by omega) (fun i hi => by rw [show ax_i h1 78 (600 * 0 + i) = s_t S i from ml.2.2.2.2 i hi]; exact ok.2.2 i hi) (fun h5 s5 c5 => ⟨rfl, ?_⟩)
    have m5 := mo_st_same s5 m1
    obtain ⟨r58, s58⟩ : ax_r h5 77 58 = some 102 ∧ ax_s h5 102 = (13, 3) := m5.2 24 _ rfl
    refine ⟨m5.1, _, r58, Or.inr rfl, sh_k s58, by rw [s58]; exact vp_in_nI hk (by decide), Or.inr rfl, ?_⟩
    rw [nI_clamp (by omega)]
    have hp : ax_same (fun b => b = 102) h5 (ax_pi h5 102 k 1) := sm_pi rfl
    have gp : ag (fun b => b ≠ 102) h5 (ax_pi h5 102 k 1) := ag_same hp (fun x hx => hx)
    refine hq k hk rfl _ (sm_tr hs0 (sm_tr (sm_mono s5 (fun x hx => by omega)) (sm_mono hp (fun x hx => by omega)))) ⟨mo_st_same hp m5, ml_at_ag gp (fun j h1 h2 => by omega) (ml_other ok c5 (by omega) ml), fun j hj => ?_⟩
    unfold im_set
    by_cases e : j = k
    · subst e
      rw [if_pos rfl]
      refine ⟨fun z => (by cases z), fun S' z => ?_⟩
      cases z
      exact ⟨ai_eq, ml_at_ag gp (fun j h1 h2 => by omega) (ml_moved (tk_nb ok).1 (tk_nb ok).2 (fun i i1 i2 => (c5 i i1 i2).1) ml)⟩
    · rw [if_neg e]
      have e102 : ax_i (ax_pi h5 102 k 1) 102 j = ax_i h1 102 j := by rw [ai_ne (by omega), (s5.2.2.2 102 (by omega)).1]
      refine ⟨fun z => by rw [e102]; exact (mk j hj).1 z, fun S' z => ?_⟩
      obtain ⟨d1, d2⟩ := (mk j hj).2 S' z
      exact ⟨by rw [e102]; exact d1, ml_at_ag gp (fun j h1 h2 => by omega) (ml_other (iok j S' hj z) c5 (by omega) d2)⟩
  · refine hno ?_ h1 hs1
    have q := of_decide_eq_false (b2i_0.mp q)
    rcases (show x < 0 ∨ ¬ x < 0 from Decidable.em _) with z | z
    · exact Or.inl z
    · exact Or.inr (nt_lt.mp (fun w => q ⟨nt_lt.mp z, w⟩))
theorem q10_again {x : Int32} (a : mi_at h S Im) (ok : s_ok S) (iok : im_ok Im) (hno : ((x < 0 ∨ 3 ≤ x) ∨ ∃ k, k < 3 ∧ x = nI k ∧ Im k = none) → ∀ h', ax_same md_F h h' → Ret (some (.int 0)) h') (hq : ∀ k S', k < 3 → x = nI k → Im k = some S' → ∀ h', ax_same (fun b => 77 ≤ b ∧ b ≤ 102) h h' → mi_at h' S' Im → Ret (some (.int 1)) h') : mX10_again g [.ref 77, .int x] h Ret := by
  have hs1 : ax_same md_F h (ax_pi h 77 0 0) := sm_pi (Or.inl rfl)
  have a1 := mi_md hs1 a
  refine eX10_again ⟨a.1.1, ?_⟩
  revert hs1 a1
  generalize ax_pi h 77 0 0 = h1
  intro hs1 a1
  have hs0 : ax_same (fun b => 77 ≤ b ∧ b ≤ 102) h h1 := sm_mono hs1 (fun x hx => by unfold md_F at hx; omega)
  rw [show (2 : Int32) = nI 3 - 1 from rfl]
  refine c_minN (by decide) ⟨_, rfl, fun q => ⟨Or.inl rfl, ?_⟩, fun q => ?_⟩
  · refine hno (Or.inl ?_) h1 hs1
    have q := of_decide_eq_false (b2i_0.mp q)
    rcases (show x < 0 ∨ ¬ x < 0 from Decidable.em _) with z | z
    · exact Or.inl z
    · exact Or.inr (nt_lt.mp (fun w => q ⟨nt_lt.mp z, w⟩))
  · obtain ⟨k, hk, rfl⟩ := sp_in_ix (by decide) (b2i_n0.mp q)
    obtain ⟨m1, ml, mk⟩ := id a1
    obtain ⟨r58, s58⟩ : ax_r h1 77 58 = some 102 ∧ ax_s h1 102 = (13, 3) := m1.2 24 _ rfl
    refine ⟨m1.1, _, r58, sh_k s58, by rw [s58]; exact vp_in_nI hk (by decide), fun z => ⟨m1.1, ?_⟩, fun z => ⟨Or.inl rfl, ?_⟩⟩
    · rw [nI_clamp (by omega)] at z
      cases hI : Im k with
      | none => exact absurd ((mk k hk).1 hI) z
      | some S' =>
        obtain ⟨d1, d2⟩ := (mk k hk).2 S' hI
        have ok' := iok k S' hk hI
        rw [← nI_succ]
        refine c_mcopyAll (σ := k + 1) (τ := 0) m1 (by omega) (by decide) (by omega) (fun i hi => by rw [show ax_i h1 78 (600 * (k + 1) + i) = s_t S' i from d2.2.2.2.2 i hi]; exact ok'.2.2 i hi) (fun h5 s5 c5 => ⟨rfl, Or.inr rfl, ?_⟩)
        have e102 : ∀ j, ax_i h5 102 j = ax_i h1 102 j := (s5.2.2.2 102 (by omega)).1
        refine hq k S' hk rfl hI h5 (sm_tr hs0 (sm_mono s5 (fun x hx => by omega))) ⟨mo_st_same s5 m1, ml_moved (tk_nb ok').1 (tk_nb ok').2 (fun i i1 i2 => (c5 i i1 i2).1) d2, fun j hj => ⟨fun z => by rw [e102]; exact (mk j hj).1 z, fun S'' z => ?_⟩⟩
        obtain ⟨f1, f2⟩ := (mk j hj).2 S'' z
        exact ⟨by rw [e102]; exact f1, ml_other (iok j S'' hj z) c5 (by omega) f2⟩
    · rw [nI_clamp (by omega)] at z
      refine hno (Or.inr ⟨k, hk, rfl, ?_⟩) h1 hs1
      cases hI : Im k with
      | none => rfl
      | some S' =>
        rw [show ax_i h1 102 k = 1 from ((mk k hk).2 S' hI).1] at z
        exact absurd z (by decide)
end
end

section
section
variable {g : ax_G} {Ret : Option Value → ax_H → Prop} {h : ax_H} {S : sT} {Im : Nat → Option sT} {tp : Nat → Nat}
/-! TEXT: what becomes of what is told -/
/-- what a reading finds: the fault, its place, a republic, or lines -/
abbrev rT : Type := Int32 × Int32 × rD × Nat × (Nat → Nat → Int32)
def r_f (R : rT) : Int32 := R.1
def r_p (R : rT) : Int32 := R.2.1
def r_D (R : rT) : rD := R.2.2.1
def r_N (R : rT) : Nat := R.2.2.2.1
def r_C (R : rT) : Nat → Nat → Int32 := R.2.2.2.2
def r_ok (s : Nat) (R : rT) : Prop := r_f R = 0 → (s = 0 → rd_ok (r_D R)) ∧ (1 ≤ s → ln_ok s (r_N R) (r_C R))
def s_flt (S : sT) (f p : Int32) : sT := (0, s_t S, f, p, S.2.2.2.2)
def s_put (S : sT) (s k : Nat) (R : rT) : sT := (0, s_t S, 0, r_p R, (fun q => if q = s then (if s_z S s < k + 1 then k + 1 else s_z S s) else s_z S q), (fun j => if s = 0 ∧ j = k then r_D R else s_D S j), (fun q j => if q = s ∧ j = k then r_N R else s_N S q j), (fun q j => if q = s ∧ j = k then r_C R else s_C S q j))
/-- the places where a text of sort s may go: at NONE behind the last one, or in the place of one -/
def s_at (S : sT) (s : Nat) (y : Int32) : Option Nat := if y = -1 then (if s_z S s < 2 then some (s_z S s) else none) else if sp_in y (s_z S s) then some y.toNatClampNeg else none
/-- the class's reader behind a reading -/
def rp_at (h : ax_H) (s : Nat) (R : rT) : Prop := ax_i h 35 4 = r_f R ∧ ax_i h 35 5 = r_p R ∧ (r_f R = 0 → (s = 0 → rc_at h 36 (r_D R)) ∧ (1 ≤ s → li_at h (42 + 2 * s) s (r_N R) (r_C R)))
def re_F : Nat → Prop := fun a => 35 ≤ a ∧ a ≤ 51
theorem tl_flt {f p : Int32} {h' : ax_H} (hs : ax_same (fun a => a = 1 ∨ a = 2) h h') (a : tl_at h 1 S) (e4 : ax_i h' 1 4 = 0) (e5 : ax_i h' 1 5 = f) (e6 : ax_i h' 1 6 = p) (et : ∀ i, i < 600 → ax_i h' 2 i = ax_i h 2 i) : tl_at h' 1 (s_flt S f p) := by
  obtain ⟨⟨a1, a2, a3, a4⟩, b1, b2, b3, b4, b5, b6⟩ := a
  have gg : ag (fun b => ¬ (b = 1 ∨ b = 2)) h h' := ag_same hs (fun x hx => hx)
  have z0 := (a2 0 (by decide)).1
  refine ⟨⟨to_st_F hs (fun s k h1 h5 hk => li_st_same hs (by unfold lnp; omega) (to_li a1 h1 h5 hk)) a1, fun q hq => ⟨(a2 q hq).1, by rw [(gg 3 (by omega)).2.1]; exact (a2 q hq).2⟩, fun k hk => rc_at_ag gg (fun j hj => by omega) (a3 k hk), fun q k h1 h5 hk => li_at_ag gg (by unfold lnp; omega) (a4 q k h1 h5 hk)⟩, e4, e5, e6, fun i hi => (et i hi).trans (b4 i hi), by rw [hs.2.2.1]; exact b5, by rw [hs.2.2.1]; exact b6⟩
/-- what was read is taken -/
theorem c_take {s k : Nat} {R : rT} (a : tl_at h 1 S) (hre : re_st h 35 2) (e0 : ax_i h 1 4 = 0) (e5 : ax_i h 1 5 = 0) (e6 : ax_i h 1 6 = r_p R) (hs5 : s < 5) (hk : k < 2) (hkz : k ≤ s_z S s) (hR : (s = 0 → rc_at h 36 (r_D R)) ∧ (1 ≤ s → li_at h (42 + 2 * s) s (r_N R) (r_C R))) (hq : ∀ h', ax_same (fun a => 3 ≤ a ∧ a ≤ 33) h h' → tl_at h' 1 (s_put S s k R) → Ret none h') : mX8_take g [.ref 1, .ref 35, .int (nI s), .int (nI k)] h Ret := by
  obtain ⟨⟨a1, a2, a3, a4⟩, b1, b2, b3, b4, b5, b6⟩ := id a
  obtain ⟨t1, ⟨-, t3, t4, t5⟩, ⟨-, t7, t8, t9⟩, t10, t11⟩ := id a1
  have zs := (a2 s hs5).1
  have in5 : vp_in (nI s) (ax_s h 3).2 := by rw [t7]; exact vp_in_nI hs5 (by decide)
  have ez : ax_i h 3 s = nI (s_z S s) := (a2 s hs5).2
  have em : (if nI (s_z S s) < nI k + 1 then nI k + 1 else nI (s_z S s)) = nI (if s_z S s < k + 1 then k + 1 else s_z S s) := by
    rw [← nI_succ]
    by_cases q : s_z S s < k + 1
    · rw [if_pos q, if_pos (nI_lt q (by omega))]
    · rw [if_neg q, if_neg (nI_nlt (by omega) (by omega))]
  refine eX8_take ⟨fun q => absurd q (nI_pos (by omega)), fun _ => ⟨fun q => absurd q (nI_ge (a := s) (b := 5) hs5 (by decide)), fun _ => ⟨fun q => absurd q (nI_pos (by omega)), fun _ => ⟨fun _ => ⟨t1, _, t3, t1, _, t3, sh_k t7, in5, sh_k t7, in5, ?_⟩, fun q => absurd (nI_lt (a := k) (b := 2) hk (by decide)) q⟩⟩⟩⟩
  rw [nI_clamp (by omega), show (1 + 2 : Nat) = 3 from rfl, ez, em]
  have hp : ax_same (fun a => a = 3) h (ax_pi h 3 s (nI (if s_z S s < k + 1 then k + 1 else s_z S s))) := sm_pi rfl
  have gp : ag (fun b => b ≠ 3) h (ax_pi h 3 s (nI (if s_z S s < k + 1 then k + 1 else s_z S s))) := ag_same hp (fun x hx => hx)
  have ez' : ∀ q, q < 5 → ax_i (ax_pi h 3 s (nI (if s_z S s < k + 1 then k + 1 else s_z S s))) 3 q = nI (if q = s then (if s_z S s < k + 1 then k + 1 else s_z S s) else s_z S q) := by
    intro q hq
    rw [ai_pi]
    by_cases e : q = s
    · rw [if_pos ⟨rfl, e⟩, if_pos e]
    · rw [if_neg (fun z => e z.2), if_neg e]; exact (a2 q hq).2
  have zb : ∀ q, q < 5 → (if q = s then (if s_z S s < k + 1 then k + 1 else s_z S s) else s_z S q) ≤ 2 := by
    intro q hq
    have := (a2 q hq).1
    split
    · split <;> omega
    · omega
  revert hp gp ez'
  generalize ax_pi h 3 s (nI (if s_z S s < k + 1 then k + 1 else s_z S s)) = h4
  intro hp gp ez'
  have re4 : re_st h4 35 2 := re_n_ag gp (fun j hj => by omega) (fun q _ _ => by omega) hre
  obtain ⟨r0, ⟨-, r1, r2, -⟩, r5, r6, -, -, r9⟩ := id re4
  have st4 : to_st h4 1 := to_st_F hp (fun s k h1 h5 hk => li_st_same hp (by unfold lnp; omega) (to_li a1 h1 h5 hk)) a1
  obtain ⟨u1, ⟨-, -, u4, u5⟩, ⟨-, -, u8, u9⟩, u10, u11⟩ := id st4
  refine ⟨fun q => ?_, fun q => ?_⟩
  · have s1 : 1 ≤ s := by
      rcases Nat.eq_zero_or_pos s with z | z
      · exact absurd (by rw [z]; rfl) q
      · exact z
    have ei : nI s * 2 + nI k = nI (s * 2 + k) := by rw [show (2 : Int32) = nI 2 from rfl, pk_mul, nI_add]
    obtain ⟨w1, w2⟩ := r9 s s1 hs5
    obtain ⟨w3, w4⟩ := u11 s k s1 hs5 hk
    have lR : li_at h4 (42 + 2 * s) s (r_N R) (r_C R) := li_at_ag gp (by omega) (hR.2 s1)
    refine ⟨r0, _, r2, sh_k r6, by rw [r6]; exact vp_in_nI hs5 (by decide), _, w1, u1, _, u5, sh_k u9, by rw [ei, u9]; exact vp_in_nI (by omega) (by decide), _, by rw [ei, nI_clamp (by omega)]; exact w3, ?_⟩
    refine c_copyLin s1 hs5 w4 w2 (by unfold lnp; omega) (fun h9 hs9 st9 cp => ⟨rfl, ?_⟩)
    have g9 : ag (fun b => ¬ (b = lnp 1 s k ∨ b = lnp 1 s k + 1)) h4 h9 := ag_same hs9 (fun x hx => hx)
    have G : ag (fun b => b ≠ 3 ∧ ¬ (b = lnp 1 s k ∨ b = lnp 1 s k + 1)) h h9 := ag_tr (ag_mono gp (fun x hx => hx.1)) (ag_mono g9 (fun x hx => hx.2))
    refine hq h9 (sm_tr (sm_mono hp (fun x hx => by omega)) (sm_mono hs9 (fun x hx => by unfold lnp at hx; omega))) ⟨⟨to_st_F hs9 (fun q j h1 h5 hj => ?_) st4, fun q hq5 => ⟨zb q hq5, by rw [(g9 3 (by unfold lnp; omega)).2.1]; exact ez' q hq5⟩, fun j hj => ?_, fun q j h1 h5 hj => ?_⟩, by rw [(G 1 (by unfold lnp; omega)).2.1]; exact e0, by rw [(G 1 (by unfold lnp; omega)).2.1]; exact e5, by rw [(G 1 (by unfold lnp; omega)).2.1]; exact e6, fun i hi => by rw [(G 2 (by unfold lnp; omega)).2.1]; exact b4 i hi, by rw [(G 5 (by unfold lnp; omega)).2.2.2]; exact b5, by rw [(G 5 (by unfold lnp; omega)).2.2.2]; exact b6⟩
    · by_cases e : q = s ∧ j = k
      · obtain ⟨rfl, rfl⟩ := e; exact st9
      · exact li_st_same hs9 (by unfold lnp; omega) (to_li st4 h1 h5 hj)
    · have hj : j < (if (0 : Nat) = s then (if s_z S s < k + 1 then k + 1 else s_z S s) else s_z S 0) := hj
      rw [if_neg (by omega)] at hj
      have z0 := (a2 0 (by decide)).1
      show rc_at h9 (1 + 5 + 14 * j) (if s = 0 ∧ j = k then r_D R else s_D S j)
      rw [if_neg (fun z => by omega)]
      refine rc_at_ag G (fun i hi => ?_) (a3 j hj)
      have j2 : j = 0 ∨ j = 1 := by omega
      have k2 : k = 0 ∨ k = 1 := by omega
      unfold lnp
      rcases j2 with rfl | rfl <;> rcases k2 with rfl | rfl <;> omega
    · show li_at h9 (lnp 1 q j) q (if q = s ∧ j = k then r_N R else s_N S q j) ((if q = s ∧ j = k then r_C R else s_C S q j))
      by_cases e : q = s ∧ j = k
      · obtain ⟨rfl, rfl⟩ := e
        rw [if_pos ⟨rfl, rfl⟩, if_pos ⟨rfl, rfl⟩]
        exact cp _ _ lR
      · rw [if_neg e, if_neg e]
        have hj : j < (if q = s then (if s_z S s < k + 1 then k + 1 else s_z S s) else s_z S q) := hj
        have hj' : j < s_z S q := by
          by_cases eq : q = s
          · rw [if_pos eq] at hj
            have : j ≠ k := fun z => e ⟨eq, z⟩
            rw [eq]
            by_cases w : s_z S s < k + 1
            · rw [if_pos w] at hj; omega
            · rw [if_neg w] at hj; exact hj
          · rw [if_neg eq] at hj; exact hj
        have zq := (a2 q h5).1
        exact li_at_ag G (by unfold lnp; omega) (a4 q j h1 h5 hj')
  · have s0 : s = 0 := by
      rcases Nat.eq_zero_or_pos s with z | z
      · exact z
      · exact absurd q (nI_ne0 z (by omega))
    subst s0
    obtain ⟨w3, w4⟩ := u10 k hk
    have rR : rc_at h4 36 (r_D R) := rc_at_ag gp (fun j hj => by omega) (hR.1 rfl)
    refine ⟨r0, _, r1, u1, _, u4, sh_k u8, by rw [u8]; exact vp_in_nI hk (by decide), _, by rw [nI_clamp (by omega)]; exact w3, ?_⟩
    refine c_copyRep w4 r5 (by omega) (fun h9 hs9 cp => ⟨rfl, ?_⟩)
    have g9 : ag (fun b => ¬ rc_F (1 + 5 + 14 * k) b) h4 h9 := ag_same hs9 (fun x hx => hx)
    have G : ag (fun b => b ≠ 3 ∧ ¬ rc_F (1 + 5 + 14 * k) b) h h9 := ag_tr (ag_mono gp (fun x hx => hx.1)) (ag_mono g9 (fun x hx => hx.2))
    refine hq h9 (sm_tr (sm_mono hp (fun x hx => by omega)) (sm_mono hs9 (fun x hx => by unfold rc_F at hx; omega))) ⟨⟨to_st_F hs9 (fun q j h1 h5 hj => li_st_same hs9 (by unfold rc_F lnp; omega) (to_li st4 h1 h5 hj)) st4, fun q hq5 => ⟨zb q hq5, by rw [(g9 3 (by unfold rc_F; omega)).2.1]; exact ez' q hq5⟩, fun j hj => ?_, fun q j h1 h5 hj => ?_⟩, by rw [(G 1 (by unfold rc_F; omega)).2.1]; exact e0, by rw [(G 1 (by unfold rc_F; omega)).2.1]; exact e5, by rw [(G 1 (by unfold rc_F; omega)).2.1]; exact e6, fun i hi => by rw [(G 2 (by unfold rc_F; omega)).2.1]; exact b4 i hi, by rw [(G 5 (by unfold rc_F; omega)).2.2.2]; exact b5, by rw [(G 5 (by unfold rc_F; omega)).2.2.2]; exact b6⟩
    · have hj : j < (if (0 : Nat) = 0 then (if s_z S 0 < k + 1 then k + 1 else s_z S 0) else s_z S 0) := hj
      rw [if_pos rfl] at hj
      show rc_at h9 (1 + 5 + 14 * j) (if 0 = 0 ∧ j = k then r_D R else s_D S j)
      by_cases e : j = k
      · subst e
        rw [if_pos ⟨rfl, rfl⟩]; exact cp _ rR
      · rw [if_neg (fun z => e z.2)]
        have hj' : j < s_z S 0 := by
          by_cases w : s_z S 0 < k + 1
          · rw [if_pos w] at hj; omega
          · rw [if_neg w] at hj; exact hj
        refine rc_at_ag G (fun i hi => ?_) (a3 j hj')
        unfold rc_F; omega
    · show li_at h9 (lnp 1 q j) q (if q = 0 ∧ j = k then r_N R else s_N S q j) ((if q = 0 ∧ j = k then r_C R else s_C S q j))
      have hj : j < (if q = 0 then (if s_z S 0 < k + 1 then k + 1 else s_z S 0) else s_z S q) := hj
      rw [if_neg (by omega)] at hj
      rw [if_neg (by omega), if_neg (by omega)]
      have zq := (a2 q h5).1
      refine li_at_ag G ?_ (a4 q j h1 h5 hj)
      have j2 : j = 0 ∨ j = 1 := by omega
      have k2 : k = 0 ∨ k = 1 := by omega
      unfold lnp rc_F
      rcases j2 with rfl | rfl <;> rcases k2 with rfl | rfl <;> omega
end
end

section
section
variable {g : ax_G} {Ret : Option Value → ax_H → Prop} {h : ax_H} {S : sT} {Im : Nat → Option sT} {tp : Nat → Nat}
/-- a call of the class leaves the reference -/
def fr_c (h h' : ax_H) : Prop := h'.1 = h.1 ∧ ag (fun b => 77 ≤ b ∧ b ≤ 102) h h'
theorem ci_new {h' : ax_H} {S' : sT} (s : ax_same (fun b => 1 ≤ b ∧ b ≤ 51) h h') (a : ci_at h S Im tp) (t : tl_at h' 1 S') (r : re_st h' 35 2) : ci_at h' S' Im tp ∧ fr_c h h' := by
  obtain ⟨⟨x1, x2, x3, x4, x5, x6, x7, x8⟩, a2, a3, a4⟩ := a
  have gg : ag (fun b => 52 ≤ b) h h' := ag_same s (fun x hx => by omega)
  refine ⟨⟨⟨xs_st_same s x1, t.1.1, r, pl_st_same s x4, se_st_same s x5, by rw [s.2.1]; exact x6, by rw [s.2.2.1]; exact x7, by rw [s.2.2.1]; exact x8⟩, t, fun k hk => ⟨fun e => by rw [s.2.2.1]; exact (a3 k hk).1 e, fun S' e => ?_⟩, a4⟩, s.1, ag_mono gg (fun x hx => by omega)⟩
  obtain ⟨b1, b2, b3, b4⟩ := (a3 k hk).2 S' e
  exact ⟨by rw [s.2.2.1]; exact b1, b2, by rw [s.1]; exact b3, tl_at_ag gg (fun b h1 _ => by omega) b4⟩
theorem q9_text {x1 x2 : Int32} {PR : Nat → rT} (a : ci_at h S Im tp) (ok : s_ok S)
    (rd : ∀ (s : Nat) (h0 : ax_H) (Ret' : Option Value → ax_H → Prop), s < 5 → re_st h0 35 2 → ax_s h0 2 = (12, 600) → (∀ i, i < 600 → ax_i h0 2 i = s_t S i) → (∀ h', ax_same re_F h0 h' → re_st h' 35 2 → rp_at h' s (PR s) → Ret' none h') → mX5_read g [.ref 35, .int (nI (s_n S)), .int (nI s)] h0 Ret')
    (hno : (sp_in x1 5 = false ∨ ∃ s, s < 5 ∧ x1 = nI s ∧ s_at S s x2 = none) → ∀ h', fr_c h h' → ci_at h' (s_flt S 0 (-1)) Im tp → Ret (some (.int (-2))) h')
    (hflt : ∀ s k, s < 5 → x1 = nI s → s_at S s x2 = some k → r_f (PR s) ≠ 0 → ∀ h', fr_c h h' → ci_at h' (s_flt S (r_f (PR s)) (r_p (PR s))) Im tp → Ret (some (.int (-1))) h')
    (hput : ∀ s k, s < 5 → x1 = nI s → s_at S s x2 = some k → r_f (PR s) = 0 → ∀ h', fr_c h h' → ci_at h' (s_put S s k (PR s)) Im tp → Ret (some (.int (nI k))) h') : mX9_text g [.ref 0, .int x1, .int x2] h Ret := by
  obtain ⟨⟨X, x2', x3, x4, x5, x6, x7, x8⟩, a2, a3, a4⟩ := id a
  have t1 := a2.1.1.1
  have e4 : ax_i h 1 4 = nI (s_n S) := a2.2.1
  refine uX9_text (fun A hA => vX9_text_0 hA ⟨X.1, _, X.2.1.1, t1, X.1, _, X.2.1.1, t1, X.1, _, X.2.1.1, t1, X.1, _, X.2.1.1, t1, ?_⟩)
  rw [e4]
  have hs7 : ax_same (fun a => a = 1 ∨ a = 2) h (ax_pi (ax_pi (ax_pi h 1 4 0) 1 5 0) 1 6 (-1)) := sm_tr (sm_tr (sm_pi (Or.inl rfl)) (sm_pi (Or.inl rfl))) (sm_pi (Or.inl rfl))
  have tl7 : tl_at (ax_pi (ax_pi (ax_pi h 1 4 0) 1 5 0) 1 6 (-1)) 1 (s_flt S 0 (-1)) := tl_flt hs7 a2 (by rw [ai_ne (by omega), ai_ne (by omega), ai_eq]) (by rw [ai_ne (by omega), ai_eq]) ai_eq (fun i hi => by rw [ai_ne (by omega), ai_ne (by omega), ai_ne (by omega)])
  revert hs7 tl7
  generalize ax_pi (ax_pi (ax_pi h 1 4 0) 1 5 0) 1 6 (-1) = h7
  intro hs7 tl7
  have re7 : re_st h7 35 2 := re_st_same hs7 (fun q _ _ => by omega) x3
  obtain ⟨ci7, fr7⟩ := ci_new (sm_mono hs7 (fun x hx => by omega)) a tl7 re7
  have X7 := xs_st_same hs7 X
  obtain ⟨⟨v1, ⟨v2, v3, -, -⟩, ⟨v6, v7, -, -⟩, -, -⟩, ez, -, -⟩ := tl7.1
  -- with a place
  have go : ∀ (s k : Nat) (o2 o4 o6 : Option Value), s < 5 → x1 = nI s → s_at S s x2 = some k → A (102, [some (.ref 0), some (.int (nI s)), o2, some (.int (nI (s_n S))), o4, some (.int (nI k)), o6], [.int 1], h7, 0, 0) := by
    intro s k o2 o4 o6 hs5 ex hat
    have hk : k < 2 ∧ k ≤ s_z S s := by
      have z2 : s_z S s ≤ 2 := ok.1.1 s hs5
      unfold s_at at hat
      split at hat
      · split at hat
        · cases hat; omega
        · cases hat
      · split at hat
        · rename_i q
          obtain ⟨j, hj, rfl⟩ := sp_in_ix (by omega) q
          cases hat
          rw [nI_clamp (by omega)]; omega
        · cases hat
    refine vX9_text_102 hA ⟨fun _ => ⟨X7.1, _, X7.2.1.2.2.1, re7.1, ?_⟩, fun q => absurd q (by decide)⟩
    refine rd s h7 _ hs5 re7 v6 tl7.2.2.2.2.1 (fun h11 hs11 re11 rp => ⟨rfl, ?_⟩)
    have X11 := xs_st_same hs11 X7
    have g11 : ag (fun b => b ≤ 33) h7 h11 := ag_same hs11 (fun x hx q => by unfold re_F at q; omega)
    have tl11 : tl_at h11 1 (s_flt S 0 (-1)) := tl_at_ag g11 (fun b _ hb => by omega) tl7
    have t11 := tl11.1.1.1
    refine ⟨X11.1, _, X11.2.1.1, X11.1, _, X11.2.1.2.2.1, re11.1, t11, X11.1, _, X11.2.1.1, X11.1, _, X11.2.1.2.2.1, re11.1, t11, X11.1, _, X11.2.1.1, t11, ?_⟩
    have e5 : ax_i (ax_pi h11 1 5 (ax_i h11 35 4)) 35 5 = r_p (PR s) := by rw [ai_ne (by omega)]; exact rp.2.1
    rw [e5, rp.1]
    have hs18 : ax_same (fun a => a = 1 ∨ a = 2) h11 (ax_pi (ax_pi h11 1 5 (r_f (PR s))) 1 6 (r_p (PR s))) := sm_tr (sm_pi (Or.inl rfl)) (sm_pi (Or.inl rfl))
    have f5 : ax_i (ax_pi (ax_pi h11 1 5 (r_f (PR s))) 1 6 (r_p (PR s))) 1 5 = r_f (PR s) := by rw [ai_ne (by omega), ai_eq]
    have tl18 : tl_at (ax_pi (ax_pi h11 1 5 (r_f (PR s))) 1 6 (r_p (PR s))) 1 (s_flt S (r_f (PR s)) (r_p (PR s))) := tl_flt (S := s_flt S 0 (-1)) hs18 tl11 (by rw [ai_ne (by omega), ai_ne (by omega)]; exact tl11.2.1) f5 ai_eq (fun i hi => by rw [ai_ne (by omega), ai_ne (by omega)])
    revert hs18 f5 tl18
    generalize ax_pi (ax_pi h11 1 5 (r_f (PR s))) 1 6 (r_p (PR s)) = h18
    intro hs18 f5 tl18
    have re18 : re_st h18 35 2 := re_st_same hs18 (fun q _ _ => by omega) re11
    have X18 := xs_st_same hs18 X11
    have H18 : ax_same (fun b => 1 ≤ b ∧ b ≤ 51) h h18 := sm_tr (sm_mono hs7 (fun x hx => by omega)) (sm_tr (sm_mono hs11 (fun x hx => by unfold re_F at hx; omega)) (sm_mono hs18 (fun x hx => by omega)))
    rw [f5]
    refine ⟨fun q => ⟨X18.1, _, X18.2.1.1, X18.1, _, X18.2.1.2.2.1, tl18.1.1.1, ?_⟩, fun q => ?_⟩
    · have tl18' : tl_at h18 1 (s_flt S 0 (r_p (PR s))) := by rw [q] at tl18; exact tl18
      have g18 : ag (fun b => 35 ≤ b) h11 h18 := ag_same hs18 (fun x hx => by omega)
      have hR := rp.2.2 q
      refine c_take (S := s_flt S 0 (r_p (PR s))) (R := PR s) tl18' re18 tl18'.2.1 tl18'.2.2.1 tl18'.2.2.2.1 hs5 hk.1 hk.2 ⟨fun z => rc_at_ag g18 (fun j hj => by omega) (hR.1 z), fun z => li_at_ag g18 (by omega) (hR.2 z)⟩ (fun h22 hs22 tl22 => ⟨rfl, ?_⟩)
      have re22 : re_st h22 35 2 := re_st_same hs22 (fun q _ _ => by omega) re18
      obtain ⟨c, f⟩ := ci_new (sm_tr H18 (sm_mono hs22 (fun x hx => by omega))) a tl22 re22
      exact hput s k hs5 ex hat q h22 f c
    · obtain ⟨c, f⟩ := ci_new H18 a tl18 re18
      exact hflt s k hs5 ex hat q h18 f c
  have stop : ∀ (o1 x3' : Int32) (o2 o4 o6 : Option Value) (x5' : Int32), (∃ s, s < 5 ∧ x1 = nI s ∧ s_at S s x2 = none) → A (102, [some (.ref 0), some (.int o1), o2, some (.int x3'), o4, some (.int x5'), o6], [.int 0], h7, 0, 0) := fun o1 x3' o2 o4 o6 x5' hn => vX9_text_102 hA ⟨fun q => absurd rfl q, fun _ => hno (Or.inr hn) h7 fr7 ci7⟩
  refine ⟨fun q => hno (Or.inl (dec_f (Or.inl q))) h7 fr7 ci7, fun q => ⟨fun q2 => ?_, fun q2 => hno (Or.inl (dec_f (Or.inr (nt_lt.mp q2)))) h7 fr7 ci7⟩⟩
  obtain ⟨s, hs5, rfl⟩ := (ni_ix (n := 5) (by decide)).mp ⟨q, nt_le.mpr q2⟩
  have z2 : s_z S s ≤ 2 := ok.1.1 s hs5
  have ez7 : ax_i h7 3 s = nI (s_z S s) := (ez s hs5).2
  refine ⟨X7.1, _, X7.2.1.1, v1, _, v3, sh_k v7, by rw [v7]; exact vp_in_nI hs5 (by decide), ?_⟩
  rw [nI_clamp (by omega), show (1 + 2 : Nat) = 3 from rfl, ez7]
  refine ⟨fun q => vX9_text_66 hA ⟨fun _ => ⟨fun q3 => vX9_text_101 hA (stop _ _ _ _ _ _ ⟨s, hs5, rfl, ?_⟩), fun q3 => ⟨fun q4 => vX9_text_101 hA (stop _ _ _ _ _ _ ⟨s, hs5, rfl, ?_⟩), fun q4 => ?_⟩⟩, fun e => absurd e q⟩, fun q => vX9_text_66 hA ⟨fun e => absurd q e, fun _ => ⟨fun q4 => stop _ _ _ _ _ _ ⟨s, hs5, rfl, ?_⟩, fun q4 => ?_⟩⟩⟩
  · unfold s_at; rw [if_neg q, dec_f (Or.inl q3)]; rfl
  · unfold s_at; rw [if_neg q, dec_f (Or.inr q4)]; rfl
  · obtain ⟨j, hj, rfl⟩ := (ni_ix (n := s_z S s) (by omega)).mp ⟨q3, q4⟩
    refine go s j _ _ _ hs5 rfl ?_
    unfold s_at; rw [if_neg q, sp_in_nI (by omega) hj, if_pos rfl, nI_clamp (by omega)]
  · unfold s_at; rw [if_pos q, if_neg]
    intro z
    exact absurd q4 (nI_ge (a := s_z S s) (b := 2) z (by decide))
  · refine go s (s_z S s) _ _ _ hs5 rfl ?_
    unfold s_at; rw [if_pos q, if_pos]
    rcases Nat.lt_or_ge (s_z S s) 2 with z | z
    · exact z
    · exact absurd (nI_le (a := 2) (b := s_z S s) z (by omega)) q4
end
end

section
section
variable {g : ax_G} {Ret : Option Value → ax_H → Prop} {h : ax_H}
theorem c_draftOf {s : Nat} (a : re_st h 35 2) (hs5 : s < 5) (h0 : s = 0 → Ret (some .null) h) (h1 : 1 ≤ s → Ret (some (.ref (42 + 2 * s))) h) : mX5_draftOf g [.ref 35, .int (nI s)] h Ret := by
  obtain ⟨r0, ⟨-, -, r2, -⟩, -, r6, -, r8, r9⟩ := id a
  refine eX5_draftOf ⟨fun q => absurd q (nI_pos (by omega)), fun _ => ⟨fun _ => ⟨r0, _, r2, sh_k r6, by rw [r6]; exact vp_in_nI hs5 (by decide), fun b hb => ?_, fun hb => ?_⟩, fun q => absurd (nI_lt (a := s) (b := 5) hs5 (by decide)) q⟩⟩
  · rw [nI_clamp (by omega)] at hb
    rcases Nat.eq_zero_or_pos s with z | z
    · subst z; rw [r8] at hb; cases hb
    · rw [(r9 s z hs5).1] at hb; cases hb; exact h1 z
  · rw [nI_clamp (by omega)] at hb
    rcases Nat.eq_zero_or_pos s with z | z
    · exact h0 z
    · rw [(r9 s z hs5).1] at hb; cases hb
/-- the reader at its beginning -/
def rb_at (h : ax_H) (n s : Nat) : Prop := ax_i h 35 11 = nI n ∧ ax_i h 35 8 = 0 ∧ ax_i h 35 4 = 0 ∧ ax_i h 35 5 = -1 ∧ ax_i h 35 12 = -1 ∧ ax_i h 35 13 = -1 ∧ rc_clr h 36 ∧ (1 ≤ s → ax_i h (42 + 2 * s) 3 = 0)
theorem c_begin5 {n s : Nat} (a : re_st h 35 2) (s2 : ax_s h 2 = (12, 600)) (hn : n ≤ 600) (hs5 : s < 5) (hq : ∀ h', ax_same re_F h h' → re_st h' 35 2 → rb_at h' n s → Ret none h') : mX5_begin g [.ref 35, .int (nI n), .int (nI s)] h Ret := by
  obtain ⟨r0, ⟨rt, r1, r2, r3⟩, r5, r6, r7, r8, r9⟩ := id a
  have ez : (if Int32.ofNat (ax_s h 2).2 < nI n then Int32.ofNat (ax_s h 2).2 else nI n) = nI n := by
    rw [s2]
    exact if_neg (nI_nlt (a := 600) (b := n) hn (by decide))
  have ez2 : (if 0 < nI n then nI n else (0 : Int32)) = nI n := by
    rcases Nat.eq_zero_or_pos n with z | z
    · subst z; rfl
    · exact if_pos (nI_lt (a := 0) (b := n) z (by omega))
  have hF : re_F 35 := by unfold re_F; omega
  refine eX5_begin ⟨r0, _, rt, sh_k s2, r0, r0, r0, r0, r0, r0, r0, _, r1, r5.1, ?_⟩
  rw [ez, ez2]
  have hs8 : ax_same (fun a => a = 35) h (ax_pi (ax_pi (ax_pi (ax_pi (ax_pi (ax_pi h 35 11 (nI n)) 35 8 0) 35 4 0) 35 5 (-1)) 35 12 (-1)) 35 13 (-1)) := sm_tr (sm_tr (sm_tr (sm_tr (sm_tr (sm_pi rfl) (sm_pi rfl)) (sm_pi rfl)) (sm_pi rfl)) (sm_pi rfl)) (sm_pi rfl)
  have f1 : ax_i (ax_pi (ax_pi (ax_pi (ax_pi (ax_pi (ax_pi h 35 11 (nI n)) 35 8 0) 35 4 0) 35 5 (-1)) 35 12 (-1)) 35 13 (-1)) 35 11 = nI n := by simp [ai_pi]
  have f2 : ax_i (ax_pi (ax_pi (ax_pi (ax_pi (ax_pi (ax_pi h 35 11 (nI n)) 35 8 0) 35 4 0) 35 5 (-1)) 35 12 (-1)) 35 13 (-1)) 35 8 = 0 := by simp [ai_pi]
  have f3 : ax_i (ax_pi (ax_pi (ax_pi (ax_pi (ax_pi (ax_pi h 35 11 (nI n)) 35 8 0) 35 4 0) 35 5 (-1)) 35 12 (-1)) 35 13 (-1)) 35 4 = 0 := by simp [ai_pi]
  have f4 : ax_i (ax_pi (ax_pi (ax_pi (ax_pi (ax_pi (ax_pi h 35 11 (nI n)) 35 8 0) 35 4 0) 35 5 (-1)) 35 12 (-1)) 35 13 (-1)) 35 5 = -1 := by simp [ai_pi]
  have f5 : ax_i (ax_pi (ax_pi (ax_pi (ax_pi (ax_pi (ax_pi h 35 11 (nI n)) 35 8 0) 35 4 0) 35 5 (-1)) 35 12 (-1)) 35 13 (-1)) 35 12 = -1 := by simp [ai_pi]
  have f6 : ax_i (ax_pi (ax_pi (ax_pi (ax_pi (ax_pi (ax_pi h 35 11 (nI n)) 35 8 0) 35 4 0) 35 5 (-1)) 35 12 (-1)) 35 13 (-1)) 35 13 = -1 := by simp [ai_pi]
  revert hs8 f1 f2 f3 f4 f5 f6
  generalize ax_pi (ax_pi (ax_pi (ax_pi (ax_pi (ax_pi h 35 11 (nI n)) 35 8 0) 35 4 0) 35 5 (-1)) 35 12 (-1)) 35 13 (-1) = h8
  intro hs8 f1 f2 f3 f4 f5 f6
  have re8 := re_st_same hs8 (fun q _ _ => by omega) a
  refine c_clear re8.2.2.1 (fun h10 hs10 _ cl => ⟨rfl, ?_⟩)
  have re10 : re_st h10 35 2 := re_st_same hs10 (fun q _ _ => by unfold rc_F; omega) re8
  have e35 : ∀ k, ax_i h10 35 k = ax_i h8 35 k := (hs10.2.2.2 35 (by unfold rc_F; omega)).1
  have H10 : ax_same re_F h h10 := sm_tr (sm_mono hs8 (fun x hx => by rw [hx]; exact hF)) (sm_mono hs10 (fun x hx => by unfold rc_F at hx; unfold re_F; omega))
  refine ⟨re10.1, c_draftOf re10 hs5 (fun z => Or.inr ⟨rfl, hq h10 H10 re10 ⟨by rw [e35]; exact f1, by rw [e35]; exact f2, by rw [e35]; exact f3, by rw [e35]; exact f4, by rw [e35]; exact f5, by rw [e35]; exact f6, cl, fun q => by omega⟩⟩) (fun z => Or.inl ⟨_, rfl, (re10.2.2.2.2.2.2 s z hs5).2.1, ?_⟩)⟩
  have hs15 : ax_same (fun a => a = 42 + 2 * s) h10 (ax_pi h10 (42 + 2 * s) 3 0) := sm_pi rfl
  have g15 : ag (fun b => b ≤ 42) h10 (ax_pi h10 (42 + 2 * s) 3 0) := ag_same hs15 (fun x hx => by omega)
  have E35 : ∀ k, ax_i (ax_pi h10 (42 + 2 * s) 3 0) 35 k = ax_i h8 35 k := fun k => by rw [ai_ne (by omega)]; exact e35 k
  refine hq _ (sm_tr H10 (sm_mono hs15 (fun x hx => by unfold re_F; omega))) ?_ ⟨by rw [E35]; exact f1, by rw [E35]; exact f2, by rw [E35]; exact f3, by rw [E35]; exact f4, by rw [E35]; exact f5, by rw [E35]; exact f6, ?_, fun _ => ai_eq⟩
  · obtain ⟨a1, ⟨b1, b2, b3, b4⟩, c1, c2, c3, c4, d⟩ := re10
    refine ⟨a1, ⟨b1, b2, b3, b4⟩, rc_st_same hs15 c1, c2, c3, c4, fun q h1 hq => ⟨(d q h1 hq).1, ?_⟩⟩
    obtain ⟨l1, l2, l3, l4, l5⟩ := (d q h1 hq).2
    exact ⟨l1, l2, by rw [ai_ne (by omega)]; exact l3, by rw [ai_ne (by omega)]; exact l4, l5⟩
  · obtain ⟨k1, k2, k3, k4⟩ := cl
    exact ⟨by rw [ai_ne (by omega)]; exact k1, by rw [ai_ne (by omega)]; exact k2, fun k hk => ⟨by rw [ai_ne (by omega)]; exact (k3 k hk).1, by rw [ai_ne (by omega)]; exact (k3 k hk).2⟩, fun k hk => ⟨by rw [ai_ne (by omega)]; exact (k4 k hk).1, by rw [ai_ne (by omega)]; exact (k4 k hk).2⟩⟩
end
end

section
section
variable {g : ax_G} {Ret : Option Value → ax_H → Prop} {h : ax_H}
/-! an empty tape, read by the class -/
def D0 : rD := (8, 0, fun _ => 0, fun _ => 0, fun _ => 0, fun _ _ => -1, fun _ _ => 1)
def R0 : rT := (0, -1, D0, 0, fun _ _ => 0)
theorem D0_ok : rd_ok D0 := ⟨⟨by decide, by decide⟩, by decide, fun k _ => ⟨show (-99 : Int) ≤ (0 : Int32).toInt by decide, show (0 : Int32).toInt ≤ 99 by decide⟩, fun k _ => Or.inl rfl, fun p hp => absurd hp (Nat.not_lt_zero p), fun p q hp => absurd hp (Nat.not_lt_zero p), fun p q hp => absurd hp (Nat.not_lt_zero p)⟩
theorem R0_ok (s : Nat) : r_ok s R0 := fun _ => ⟨fun _ => D0_ok, fun _ => ⟨Nat.zero_le _, fun i hi => absurd hi (Nat.not_lt_zero i)⟩⟩
theorem c_step0 (r0 : (ax_s h 35).1 = 5) (e : ax_i h 35 11 = 0) (e8 : ax_i h 35 8 = 0) (hq : ∀ h', ax_same (fun a => a = 35) h h' → (∀ k, k ≠ 6 → k ≠ 7 → ax_i h' 35 k = ax_i h 35 k) → ax_i h' 35 6 = 0 → Ret none h') : mX5_step g [.ref 35] h Ret := by
  have le : ax_i h 35 11 ≤ ax_i h 35 8 := by rw [e, e8]; decide
  refine uX5_step (fun A hA => vX5_step_0 hA ⟨r0, r0, fun _ => ⟨r0, r0, r0, r0, fun q => ?_, fun _ => ⟨r0, ?_⟩⟩, fun q => absurd le q⟩)
  · rw [ai_ne (by omega), ai_ne (by omega), e, e8] at q; exact absurd q (by decide)
  · refine hq _ (sm_tr (sm_pi rfl) (sm_pi rfl)) (fun k h6 h7 => ?_) ai_eq
    rw [ai_ne (by omega), ai_ne (by omega)]
theorem c_read0 {s : Nat} (a : re_st h 35 2) (s2 : ax_s h 2 = (12, 600)) (hs5 : s < 5) (hq : ∀ h', ax_same re_F h h' → re_st h' 35 2 → rp_at h' s R0 → Ret none h') : mX5_read g [.ref 35, .int (nI 0), .int (nI s)] h Ret := by
  refine uX5_read (fun A hA => vX5_read_0 hA ⟨a.1, c_begin5 a s2 (by omega) hs5 (fun h1 s1 re1 rb => ⟨rfl, re1.1, ?_⟩)⟩)
  obtain ⟨b1, b2, b3, b4, b5, b6, ⟨c1, c2, c3, c4⟩, b8⟩ := rb
  refine c_step0 re1.1 (b1.trans rfl) b2 (fun h3 s3 e3 t3 => ⟨rfl, ?_⟩)
  have re3 : re_st h3 35 2 := re_st_same s3 (fun q _ _ => by omega) re1
  have g3 : ag (fun b => b ≠ 35) h1 h3 := ag_same s3 (fun x hx => hx)
  have S3 : ax_same re_F h h3 := sm_tr s1 (sm_mono s3 (fun x hx => by unfold re_F; omega))
  have r36 := re3.2.2.1
  have e5 : ax_i h3 36 5 = 8 := by rw [(g3 36 (by decide)).2.1]; exact c1
  have e6 : ax_i h3 36 6 = 0 := by rw [(g3 36 (by decide)).2.1]; exact c2
  have e12 : ax_i h3 35 12 = -1 := by rw [e3 12 (by decide) (by decide)]; exact b5
  have e13 : ax_i h3 35 13 = -1 := by rw [e3 13 (by decide) (by decide)]; exact b6
  refine vX5_read_12 hA ⟨fun q => absurd q (by decide), fun _ => ⟨re3.1, fun _ => ⟨re3.1, re3.1, _, re3.2.1.2.1, r36.1, fun q => ?_, fun _ => ⟨re3.1, re3.1, _, re3.2.1.2.1, r36.1, fun _ => ?_, fun q => ?_⟩⟩, fun q => absurd t3 q⟩⟩
  · rw [show (35 + 1 : Nat) = 36 from rfl, e5, e12] at q; exact absurd q (by decide)
  · refine hq h3 S3 re3 ⟨by rw [e3 4 (by decide) (by decide)]; exact b3, by rw [e3 5 (by decide) (by decide)]; exact b4, fun _ => ⟨fun _ => ?_, fun z => ?_⟩⟩
    · refine ⟨r36, ⟨by decide, by decide⟩, ⟨e5, e6⟩, fun k hk => ?_, fun k hk => ?_, fun p hp => absurd hp (Nat.not_lt_zero p), fun p q hp => absurd hp (Nat.not_lt_zero p), fun p q hp => absurd hp (Nat.not_lt_zero p)⟩
      · rw [(g3 (36 + 1) (by decide)).2.1]; exact (c3 k hk).1
      · rw [(g3 (36 + 2) (by decide)).2.1]; exact (c3 k hk).2
    · refine ⟨(re3.2.2.2.2.2.2 s z hs5).2, Nat.zero_le _, ?_, fun i j hi => absurd hi (Nat.not_lt_zero i)⟩
      rw [(g3 (42 + 2 * s) (by omega)).2.1]; exact b8 z
  · rw [show (35 + 1 : Nat) = 36 from rfl, e6, e13] at q; exact absurd (by decide) q
end
end

section
section
variable {g : ax_G} {Ret : Option Value → ax_H → Prop} {h : ax_H} {S : sT} {Im : Nat → Option sT}
/-! TEXT, the reference -/
def lX (s : Nat) : Nat := [164, 15, 19, 17, 19].getD s 0
theorem lX_W {s : Nat} (h1 : 1 ≤ s) (h5 : s < 5) : lX s = lW s := by
  match s, h1, h5 with
  | 1, _, _ => rfl
  | 2, _, _ => rfl
  | 3, _, _ => rfl
  | 4, _, _ => rfl
theorem lX_rwl {s : Nat} (h5 : s < 5) : rwl (6 + s) = 2 * lX s ∧ 15 ≤ lX s ∧ lX s ≤ 164 := by
  match s, h5 with
  | 0, _ => decide
  | 1, _ => decide
  | 2, _ => decide
  | 3, _ => decide
  | 4, _ => decide
theorem rwl_pos {j : Nat} (h1 : 1 ≤ j) (h2 : j ≤ 10) : 1 ≤ rwl j := by
  match j, h1, h2 with
  | 1, _, _ => decide
  | 2, _, _ => decide
  | 3, _, _ => decide
  | 4, _, _ => decide
  | 5, _, _ => decide
  | 6, _, _ => decide
  | 7, _, _ => decide
  | 8, _, _ => decide
  | 9, _, _ => decide
  | 10, _, _ => decide
theorem c_mstore {b n k L : Nat} (a : mo_st h 77) (s : ax_s h b = (11, L)) (hb : b ≠ 88) (hn : n ≤ 164) (hk : n * k + n ≤ L) (hL : L < 100000) (hq : ∀ h', ax_same (fun x => x = b) h h' → (∀ i, i < n → ax_i h' b (n * k + i) = ax_i h 88 i) → (∀ j, ¬ (n * k ≤ j ∧ j < n * k + n) → ax_i h' b j = ax_i h b j) → Ret none h') : mX10_store g [.ref 77, .ref b, .int (nI n), .int (nI k)] h Ret := by
  refine uX10_store (fun A hA => vX10_store_0 hA ?_)
  have key : ∀ m i : Nat, i + m = n → ∀ hh : ax_H, ax_same (fun x => x = b) h hh → (∀ k', k' < i → ax_i hh b (n * k + k') = ax_i h 88 k') → (∀ j, ¬ (n * k ≤ j ∧ j < n * k + i) → ax_i hh b j = ax_i h b j) → A (3, [some (.ref 77), some (.ref b), some (.int (nI n)), some (.int (nI k)), some (.int (nI i))], [], hh, 0, 0) := by
    intro m
    induction m with
    | zero =>
      intro i hi hh hs e1 e2
      obtain rfl : i = n := by omega
      exact vX10_store_3 hA ⟨fun _ => hq hh hs e1 e2, fun q => absurd (nI_le (Nat.le_refl i) (by omega)) q⟩
    | succ m ih =>
      intro i hi hh hs e1 e2
      have a' := mo_st_same hs a
      obtain ⟨r20, s20⟩ : ax_r hh 77 20 = some 88 ∧ ax_s hh 88 = (11, 164) := a'.2 10 _ rfl
      have s' : ax_s hh b = (11, L) := by rw [hs.2.1]; exact s
      have ea : nI n * nI k + nI i = nI (n * k + i) := by rw [pk_mul, nI_add]
      have e88 : ax_i hh 88 i = ax_i h 88 i := (hs.2.2.2 88 (fun q => hb q.symm)).1 i
      refine vX10_store_3 hA ⟨fun q => absurd q (nI_ge (a := i) (b := n) (by omega) (by omega)), fun _ => ⟨a'.1, 88, r20, sh_k s20, by rw [s20]; exact vp_in_nI (by omega) (by decide), sh_k s', by rw [ea, s']; exact vp_in_nI (by omega) (by omega), ?_⟩⟩
      rw [ea, nI_clamp (by omega), nI_clamp (by omega), ← nI_succ, e88]
      refine ih (i + 1) (by omega) _ (sm_tr hs (sm_pi rfl)) (fun k' hk' => ?_) (fun j hj => ?_)
      · by_cases e : k' = i
        · subst e; rw [ai_eq]
        · rw [ai_ne (by omega)]; exact e1 k' (by omega)
      · rw [ai_ne (by omega)]; exact e2 j (by omega)
  exact key n 0 (by omega) h sm_rf (fun k hk => absurd hk (Nat.not_lt_zero k)) (fun j _ => rfl)
theorem c_mstoreAll {s k : Nat} (a : mo_st h 77) (hs5 : s < 5) (hk : k < 2) (hq : ∀ h', ax_same (fun x => x = 83 + s) h h' → (∀ i, i < lX s → ax_i h' (83 + s) (lX s * k + i) = ax_i h 88 i) → (∀ j, ¬ (lX s * k ≤ j ∧ j < lX s * k + lX s) → ax_i h' (83 + s) j = ax_i h (83 + s) j) → Ret none h') : mX10_storeAll g [.ref 77, .int (nI s), .int (nI k)] h Ret := by
  match s, hs5 with
  | 0, _ => exact eX10_storeAll ⟨fun _ => ⟨a.1, 83, (a.2 5 _ rfl).1, a.1, c_mstore (n := 164) (L := 1312) a (a.2 5 _ rfl).2 (by decide) (by decide) (by omega) (by decide) (fun h' h1 h2 h3 => ⟨rfl, hq h' h1 h2 h3⟩)⟩, fun q => absurd rfl q⟩
  | 1, _ => exact eX10_storeAll ⟨fun q => absurd q (by decide), fun _ => ⟨fun _ => ⟨a.1, 84, (a.2 6 _ rfl).1, a.1, c_mstore (n := 15) (L := 120) a (a.2 6 _ rfl).2 (by decide) (by decide) (by omega) (by decide) (fun h' h1 h2 h3 => ⟨rfl, hq h' h1 h2 h3⟩)⟩, fun q => absurd rfl q⟩⟩
  | 2, _ => exact eX10_storeAll ⟨fun q => absurd q (by decide), fun _ => ⟨fun q => absurd q (by decide), fun _ => ⟨fun _ => ⟨a.1, 85, (a.2 7 _ rfl).1, a.1, c_mstore (n := 19) (L := 152) a (a.2 7 _ rfl).2 (by decide) (by decide) (by omega) (by decide) (fun h' h1 h2 h3 => ⟨rfl, hq h' h1 h2 h3⟩)⟩, fun q => absurd rfl q⟩⟩⟩
  | 3, _ => exact eX10_storeAll ⟨fun q => absurd q (by decide), fun _ => ⟨fun q => absurd q (by decide), fun _ => ⟨fun q => absurd q (by decide), fun _ => ⟨fun _ => ⟨a.1, 86, (a.2 8 _ rfl).1, a.1, c_mstore (n := 17) (L := 136) a (a.2 8 _ rfl).2 (by decide) (by decide) (by omega) (by decide) (fun h' h1 h2 h3 => ⟨rfl, hq h' h1 h2 h3⟩)⟩, fun q => absurd rfl q⟩⟩⟩⟩
  | 4, _ => exact eX10_storeAll ⟨fun q => absurd q (by decide), fun _ => ⟨fun q => absurd q (by decide), fun _ => ⟨fun q => absurd q (by decide), fun _ => ⟨fun q => absurd q (by decide), fun _ => ⟨a.1, 87, (a.2 9 _ rfl).1, a.1, c_mstore (n := 19) (L := 152) a (a.2 9 _ rfl).2 (by decide) (by decide) (by omega) (by decide) (fun h' h1 h2 h3 => ⟨rfl, hq h' h1 h2 h3⟩)⟩⟩⟩⟩⟩
/-- the reference's rows anew, its images as they were -/
theorem mi_new {h' : ax_H} {S' : sT} (s : ax_same (fun b => 77 ≤ b ∧ b ≤ 101) h h') (iok : im_ok Im) (a : mi_at h S Im) (t : ml_at h' 77 0 S') (c : ∀ j, 1 ≤ j → j ≤ 10 → ∀ i, rwl j ≤ i → ax_i h' (77 + j) i = ax_i h (77 + j) i) : mi_at h' S' Im := by
  have e102 : ∀ k, ax_i h' 102 k = ax_i h 102 k := (s.2.2.2 102 (by omega)).1
  refine ⟨mo_st_same s a.1, t, fun k hk => ⟨fun e => by rw [e102]; exact (a.2.2 k hk).1 e, fun S'' e => ?_⟩⟩
  obtain ⟨b1, b2⟩ := (a.2.2 k hk).2 S'' e
  refine ⟨by rw [e102]; exact b1, ml_moved (tk_nb (iok k S'' hk e)).1 (tk_nb (iok k S'' hk e)).2 (fun j j1 j2 i hi => c j j1 j2 _ ?_) b2⟩
  rw [Nat.mul_succ]; omega
/-- a republic as the reference has read it -/
def rq_at (h : ax_H) (D : rD) : Prop := (dH D ≤ 12 ∧ dP D ≤ 6) ∧ ax_i h 88 0 = nI (dH D) ∧ ax_i h 88 1 = nI (dP D) ∧ (∀ p, p < dP D → ax_i h 88 (2 + p) = dpu D p) ∧ (∀ k, k < 6 → ax_i h 88 (8 + k) = dwo D k) ∧ (∀ k, k < 6 → ax_i h 88 (14 + k) = dmo D k) ∧ (∀ p q, p < dP D → q < dH D → ax_i h 88 (20 + 12 * p + q) = dde D p q) ∧ ∀ p q, p < dP D → q < dH D → ax_i h 88 (92 + 12 * p + q) = dlo D p q
def rl_at (h : ax_H) (s n : Nat) (C : Nat → Nat → Int32) : Prop := n ≤ lm s ∧ ax_i h 88 0 = nI n ∧ ∀ i j, i < n → j < lw s → ax_i h 88 (1 + lw s * i + j) = C i j
/-- the reference behind a reading -/
def mr_at (h : ax_H) (s : Nat) (R : rT) : Prop := ax_i h 80 0 = r_f R ∧ ax_i h 81 0 = r_p R ∧ (r_f R = 0 → (s = 0 → rq_at h (r_D R)) ∧ (1 ≤ s → rl_at h s (r_N R) (r_C R)))
def mr_F : Nat → Prop := fun a => a = 77 ∨ a = 80 ∨ a = 81 ∨ a = 88 ∨ a = 89
theorem dis2 {w j k o : Nat} (e : j ≠ k) (ho : o < w) : ¬ (w * k ≤ w * j + o ∧ w * j + o < w * k + w) := by
  intro q
  rcases Nat.lt_or_ge j k with z | z
  · have : w * (j + 1) ≤ w * k := Nat.mul_le_mul_left w z
    rw [Nat.mul_succ] at this
    omega
  · have : w * (k + 1) ≤ w * j := Nat.mul_le_mul_left w (by omega)
    rw [Nat.mul_succ] at this
    omega
theorem ml_put {h9 h21 : ax_H} {s k : Nat} {R : rT} (T : ml_at h9 77 0 (s_flt S 0 (-1))) (ok : s_ok S) (hs5 : s < 5) (hkz : k ≤ s_z S s)
    (e82 : ∀ q, q < 5 → ax_i h21 82 q = nI (if q = s then (if s_z S s < k + 1 then k + 1 else s_z S s) else s_z S q))
    (eo : ∀ q, q < 5 → q ≠ s → ∀ i, ax_i h21 (83 + q) i = ax_i h9 (83 + q) i)
    (es : ∀ i, ¬ (lX s * k ≤ i ∧ i < lX s * k + lX s) → ax_i h21 (83 + s) i = ax_i h9 (83 + s) i)
    (et : ∀ i, i < lX s → ax_i h21 (83 + s) (lX s * k + i) = ax_i h21 88 i)
    (e79 : ax_i h21 79 0 = 0) (e80 : ax_i h21 80 0 = 0) (e81 : ax_i h21 81 0 = r_p R) (e78 : ∀ i, ax_i h21 78 i = ax_i h9 78 i)
    (hR : (s = 0 → rq_at h21 (r_D R)) ∧ (1 ≤ s → rl_at h21 s (r_N R) (r_C R))) : ml_at h21 77 0 (s_put S s k R) := by
  obtain ⟨⟨a1, a2, a3⟩, a4, a5, a6, a7⟩ := T
  have lt : ∀ q j, j < (if q = s then (if s_z S s < k + 1 then k + 1 else s_z S s) else s_z S q) → ¬ (q = s ∧ j = k) → j < s_z S q := by
    intro q j hj e
    by_cases eq : q = s
    · rw [if_pos eq] at hj
      have : j ≠ k := fun z => e ⟨eq, z⟩
      rw [eq]
      by_cases w : s_z S s < k + 1
      · rw [if_pos w] at hj; omega
      · rw [if_neg w] at hj; exact hj
    · rw [if_neg eq] at hj; exact hj
  refine ⟨⟨fun q hq => ?_, fun j hj => ?_, fun q j h1 h5 hj => ?_⟩, e79, e80, e81, fun i hi => ?_⟩
  · rw [Nat.mul_zero, Nat.zero_add]; exact e82 q hq
  · show rm_at h21 77 (328 * 0 + 164 * j) (if s = 0 ∧ j = k then r_D R else s_D S j)
    rw [Nat.mul_zero, Nat.zero_add]
    by_cases e : s = 0 ∧ j = k
    · obtain ⟨rfl, rfl⟩ := e
      rw [if_pos ⟨rfl, rfl⟩]
      obtain ⟨⟨b1, b2⟩, c1, c2, c3, c4, c5, c6, c7⟩ := hR.1 rfl
      have c : ∀ x o : Nat, o < 164 → x = 164 * j + o → ax_i h21 (77 + 6) x = ax_i h21 88 o := fun x o ho hx => by rw [hx]; exact et o ho
      exact ⟨⟨b1, b2⟩, (c _ 0 (by omega) rfl).trans c1, (c _ 1 (by omega) rfl).trans c2, fun p hp => (c _ (2 + p) (by omega) (by omega)).trans (c3 p hp), fun k hk => (c _ (8 + k) (by omega) (by omega)).trans (c4 k hk), fun k hk => (c _ (14 + k) (by omega) (by omega)).trans (c5 k hk), fun p q hp hq => (c _ (20 + 12 * p + q) (by omega) (by omega)).trans (c6 p q hp hq), fun p q hp hq => (c _ (92 + 12 * p + q) (by omega) (by omega)).trans (c7 p q hp hq)⟩
    · rw [if_neg e]
      have hj' : j < s_z S 0 := lt 0 j hj (fun z => e ⟨z.1.symm, z.2⟩)
      have := a2 j hj'
      rw [Nat.mul_zero, Nat.zero_add] at this
      refine rm_moved (fun o ho => ?_) this
      by_cases z : s = 0
      · subst z
        exact es _ (dis2 (w := 164) (fun w => e ⟨rfl, w⟩) ho)
      · exact eo 0 (by decide) (fun w => z w.symm) _
  · show ax_i h21 (77 + 6 + q) (2 * lW q * 0 + lW q * j) = nI (if q = s ∧ j = k then r_N R else s_N S q j) ∧ ∀ i jj, i < (if q = s ∧ j = k then r_N R else s_N S q j) → jj < lw q → ax_i h21 (77 + 6 + q) (2 * lW q * 0 + lW q * j + 1 + lw q * i + jj) = (if q = s ∧ j = k then r_C R else s_C S q j) i jj
    rw [Nat.mul_zero, Nat.zero_add, show 77 + 6 + q = 83 + q by omega]
    have hX := lX_W h1 h5
    have hbig : ∀ n i jj, n ≤ lm q → i < n → jj < lw q → 1 + lw q * i + jj < lW q := by
      intro n i jj hn hi hj
      have : lw q * (i + 1) ≤ lw q * lm q := Nat.mul_le_mul_left _ (by omega)
      rw [Nat.mul_succ, Nat.mul_comm (lw q) (lm q)] at this
      have := (lW_rwl h1 h5).2
      omega
    by_cases e : q = s ∧ j = k
    · obtain ⟨rfl, rfl⟩ := e
      rw [if_pos ⟨rfl, rfl⟩, if_pos ⟨rfl, rfl⟩]
      obtain ⟨n1, n2, n3⟩ := hR.2 h1
      rw [hX] at et
      have w0 := (lX_rwl h5).2.1
      refine ⟨(et 0 (by omega)).trans n2, fun i jj hi hj => ?_⟩
      rw [show lW q * j + 1 + lw q * i + jj = lW q * j + (1 + lw q * i + jj) by omega]
      exact (et _ (hbig _ i jj n1 hi hj)).trans (n3 i jj hi hj)
    · rw [if_neg e, if_neg e]
      have hj' : j < s_z S q := lt q j hj e
      obtain ⟨b1, b2⟩ := a3 q j h1 h5 hj'
      have b1 : ax_i h9 (77 + 6 + q) (2 * lW q * 0 + lW q * j) = nI (s_N S q j) := b1
      have b2 : ∀ i jj, i < s_N S q j → jj < lw q → ax_i h9 (77 + 6 + q) (2 * lW q * 0 + lW q * j + 1 + lw q * i + jj) = s_C S q j i jj := b2
      rw [Nat.mul_zero, Nat.zero_add, show 77 + 6 + q = 83 + q by omega] at b1
      have nb := (ok.1.2.2 q j h1 h5 hj').1
      have w0 := (lX_rwl h5).2.1
      have same : ∀ o, o < lW q → ax_i h21 (83 + q) (lW q * j + o) = ax_i h9 (83 + q) (lW q * j + o) := by
        intro o ho
        by_cases z : q = s
        · subst z
          rw [hX] at es
          exact es _ (dis2 (fun w => e ⟨rfl, w⟩) ho)
        · exact eo q h5 z _
      refine ⟨(same 0 (by omega)).trans b1, fun i jj hi hj => ?_⟩
      have := b2 i jj hi hj
      rw [Nat.mul_zero, Nat.zero_add, show 77 + 6 + q = 83 + q by omega] at this
      rw [show lW q * j + 1 + lw q * i + jj = lW q * j + (1 + lw q * i + jj) by omega] at this ⊢
      exact (same _ (hbig _ i jj nb hi hj)).trans this
  · have := a7 i hi
    rw [Nat.mul_zero, Nat.zero_add] at this ⊢
    exact (e78 i).trans this
end
end

section
section
variable {g : ax_G} {Ret : Option Value → ax_H → Prop} {h : ax_H} {S : sT} {Im : Nat → Option sT}
theorem q10_text {x1 x2 : Int32} {PR : Nat → rT} (a : mi_at h S Im) (ok : s_ok S) (iok : im_ok Im)
    (rd : ∀ (s : Nat) (h0 : ax_H) (Ret' : Option Value → ax_H → Prop), s < 5 → mi_at h0 (s_flt S 0 (-1)) Im → ax_i h0 77 12 = nI (s_n S) → (∀ h', ax_same mr_F h0 h' → (∀ i, 1 ≤ i → ax_i h' 80 i = ax_i h0 80 i ∧ ax_i h' 81 i = ax_i h0 81 i) → mr_at h' s (PR s) → Ret' (some (.int (b2i (decide (r_f (PR s) = 0))))) h') → mX10_readText g [.ref 77, .int (nI s)] h0 Ret')
    (hno : (sp_in x1 5 = false ∨ ∃ s, s < 5 ∧ x1 = nI s ∧ s_at S s x2 = none) → ∀ h', ax_same (fun b => 77 ≤ b ∧ b ≤ 102) h h' → mi_at h' (s_flt S 0 (-1)) Im → Ret (some (.int (-2))) h')
    (hflt : ∀ s k, s < 5 → x1 = nI s → s_at S s x2 = some k → r_f (PR s) ≠ 0 → ∀ h', ax_same (fun b => 77 ≤ b ∧ b ≤ 102) h h' → mi_at h' (s_flt S (r_f (PR s)) (r_p (PR s))) Im → Ret (some (.int (-1))) h')
    (hput : ∀ s k, s < 5 → x1 = nI s → s_at S s x2 = some k → r_f (PR s) = 0 → ∀ h', ax_same (fun b => 77 ≤ b ∧ b ≤ 102) h h' → mi_at h' (s_put S s k (PR s)) Im → Ret (some (.int (nI k))) h') : mX10_text g [.ref 77, .int x1, .int x2] h Ret := by
  have m := a.1
  obtain ⟨r2, s2⟩ : ax_r h 77 2 = some 79 ∧ ax_s h 79 = (11, 4) := m.2 1 _ rfl
  obtain ⟨r3, s3⟩ : ax_r h 77 3 = some 80 ∧ ax_s h 80 = (11, 4) := m.2 2 _ rfl
  obtain ⟨r4, s4⟩ : ax_r h 77 4 = some 81 ∧ ax_s h 81 = (11, 4) := m.2 3 _ rfl
  have in0 : vp_in (0 : Int32) 4 := vp_in_nI (n := 0) (N := 4) (by decide) (by decide)
  have i2 : vp_in (0 : Int32) (ax_s h 79).2 := by rw [s2]; exact in0
  have i3 : vp_in (0 : Int32) (ax_s h 80).2 := by rw [s3]; exact in0
  have i4 : vp_in (0 : Int32) (ax_s h 81).2 := by rw [s4]; exact in0
  have e4 : ax_i (ax_pi h 77 0 0) 79 0 = nI (s_n S) := by rw [ai_ne (by omega)]; exact a.2.1.2.1
  refine eX10_text ⟨m.1, m.1, 79, r2, sh_k s2, i2, m.1, m.1, 79, r2, sh_k s2, i2, m.1, 80, r3, sh_k s3, i3, m.1, 81, r4, sh_k s4, i4, ?_⟩
  rw [e4]
  have S9 : ax_same (fun b => b = 77 ∨ (79 ≤ b ∧ b ≤ 81)) h (ax_pi (ax_pi (ax_pi (ax_pi (ax_pi h 77 0 0) 77 12 (nI (s_n S))) 79 0 0) 80 0 0) 81 0 (-1)) := sm_tr (sm_tr (sm_tr (sm_tr (sm_pi (Or.inl rfl)) (sm_pi (Or.inl rfl))) (sm_pi (Or.inr ⟨by decide, by decide⟩))) (sm_pi (Or.inr ⟨by decide, by decide⟩))) (sm_pi (Or.inr ⟨by decide, by decide⟩))
  have E12 : ax_i (ax_pi (ax_pi (ax_pi (ax_pi (ax_pi h 77 0 0) 77 12 (nI (s_n S))) 79 0 0) 80 0 0) 81 0 (-1)) 77 12 = nI (s_n S) := by rw [ai_ne (by omega), ai_ne (by omega), ai_ne (by omega), ai_eq]
  have E79 : ax_i (ax_pi (ax_pi (ax_pi (ax_pi (ax_pi h 77 0 0) 77 12 (nI (s_n S))) 79 0 0) 80 0 0) 81 0 (-1)) 79 0 = 0 := by rw [ai_ne (by omega), ai_ne (by omega), ai_eq]
  have E80 : ax_i (ax_pi (ax_pi (ax_pi (ax_pi (ax_pi h 77 0 0) 77 12 (nI (s_n S))) 79 0 0) 80 0 0) 81 0 (-1)) 80 0 = 0 := by rw [ai_ne (by omega), ai_eq]
  have E81 : ax_i (ax_pi (ax_pi (ax_pi (ax_pi (ax_pi h 77 0 0) 77 12 (nI (s_n S))) 79 0 0) 80 0 0) 81 0 (-1)) 81 0 = -1 := ai_eq
  have EC : ∀ j, 1 ≤ j → ∀ i, 1 ≤ i → ax_i (ax_pi (ax_pi (ax_pi (ax_pi (ax_pi h 77 0 0) 77 12 (nI (s_n S))) 79 0 0) 80 0 0) 81 0 (-1)) (77 + j) i = ax_i h (77 + j) i := fun j hj i hi => by rw [ai_ne (by omega), ai_ne (by omega), ai_ne (by omega), ai_ne (by omega), ai_ne (by omega)]
  revert S9 E12 E79 E80 E81 EC
  generalize ax_pi (ax_pi (ax_pi (ax_pi (ax_pi h 77 0 0) 77 12 (nI (s_n S))) 79 0 0) 80 0 0) 81 0 (-1) = h9
  intro S9 E12 E79 E80 E81 EC
  have g9 : ag (fun b => ¬ (b = 77 ∨ (79 ≤ b ∧ b ≤ 81))) h h9 := ag_same S9 (fun x hx => hx)
  have H9 : ax_same (fun b => 77 ≤ b ∧ b ≤ 102) h h9 := sm_mono S9 (fun x hx => by omega)
  have ml9 : ml_at h9 77 0 (s_flt S 0 (-1)) := by
    refine ⟨tm_at_ag (m := 77) g9 (fun j hj => by omega) a.2.1.1, E79, E80, E81, fun i hi => ?_⟩
    rw [(g9 (77 + 1) (by omega)).2.1]; exact a.2.1.2.2.2.2 i hi
  have mi9 : mi_at h9 (s_flt S 0 (-1)) Im := mi_new (sm_mono S9 (fun x hx => by omega)) iok a ml9 (fun j j1 j2 i hi => EC j j1 i (Nat.le_trans (rwl_pos j1 j2) hi))
  have m9 := mi9.1
  have K := ok.1
  have T9 : tm_at h9 77 0 (s_z S) (s_D S) (s_N S) (s_C S) := ml9.1
  show mX10_in g [.int x1, .int 0, .int (nI 5 - 1)] h9 _
  refine c_minN (by decide) ⟨_, rfl, fun q => hno (Or.inl (b2i_0.mp q)) h9 H9 mi9, fun q => ?_⟩
  obtain ⟨s, hs5, rfl⟩ := sp_in_ix (by decide) (b2i_n0.mp q)
  have z2 : s_z S s ≤ 2 := K.1 s hs5
  -- what is read is kept
  have fin : ∀ (k : Nat) (h16 : ax_H) (v : Int32), k < 2 → k ≤ s_z S s → s_at S s x2 = some k → r_f (PR s) = 0 → ax_same mr_F h9 h16 → (∀ i, 1 ≤ i → ax_i h16 80 i = ax_i h9 80 i ∧ ax_i h16 81 i = ax_i h9 81 i) → mr_at h16 s (PR s) → v = nI (if s_z S s < k + 1 then k + 1 else s_z S s) → mX10_storeAll g [.ref 77, .int (nI s), .int (nI k)] (ax_pi h16 82 s v) (fun v22 h21 => v22 = none ∧ Ret (some (.int (nI k))) h21) := by
    intro k h16 v hk hkz hat hz s16 e16 mr16 hv
    have sp : ax_same (fun x => x = 82) h16 (ax_pi h16 82 s v) := sm_pi rfl
    have ep : ∀ i, ax_i (ax_pi h16 82 s v) 82 i = if i = s then v else ax_i h16 82 i := fun i => by
      by_cases e : i = s
      · rw [if_pos e, e, ai_eq]
      · rw [if_neg e, ai_ne (by omega)]
    revert sp ep
    generalize ax_pi h16 82 s v = h20
    intro sp ep
    have m20 : mo_st h20 77 := mo_st_same sp (mo_st_same s16 m9)
    refine c_mstoreAll m20 hs5 hk (fun h21 s21 t1 t2 => ⟨rfl, ?_⟩)
    have H21 : ax_same (fun b => 77 ≤ b ∧ b ≤ 101) h9 h21 := sm_tr (sm_mono s16 (fun x hx => by unfold mr_F at hx; omega)) (sm_tr (sm_mono sp (fun x hx => by omega)) (sm_mono s21 (fun x hx => by omega)))
    have g16 : ag (fun b => ¬ mr_F b) h9 h16 := ag_same s16 (fun x hx => hx)
    have g20 : ag (fun b => b ≠ 82) h16 h20 := ag_same sp (fun x hx => hx)
    have g21 : ag (fun b => b ≠ 83 + s) h20 h21 := ag_same s21 (fun x hx => hx)
    have k1 : ∀ b, b ≠ 82 → b ≠ 83 + s → ∀ i, ax_i h21 b i = ax_i h16 b i := fun b q1 q2 i => ((g21 b q2).2.1 i).trans ((g20 b q1).2.1 i)
    have k2 : ∀ b, ¬ mr_F b → b ≠ 82 → b ≠ 83 + s → ∀ i, ax_i h21 b i = ax_i h9 b i := fun b q0 q1 q2 i => (k1 b q1 q2 i).trans ((g16 b q0).2.1 i)
    obtain ⟨f1, f2, f3⟩ := mr16
    have k88 : ∀ i, ax_i h21 88 i = ax_i h16 88 i := k1 88 (by omega) (by omega)
    have e82 : ∀ i, i ≠ s → ax_i h21 82 i = ax_i h9 82 i := fun i hi => by rw [(g21 82 (by omega)).2.1, ep, if_neg hi, (g16 82 (by unfold mr_F; omega)).2.1]
    refine hput s k hs5 rfl hat hz h21 (sm_tr H9 (sm_mono H21 (fun x hx => by omega))) (mi_new H21 iok mi9 (ml_put ml9 ok hs5 hkz (fun q hq => ?_) (fun q hq hne i => k2 _ (by unfold mr_F; omega) (by omega) (by omega) i) (fun i hi => ?_) (fun i hi => ?_) ((k2 79 (by unfold mr_F; omega) (by omega) (by omega) 0).trans E79) ((k1 80 (by omega) (by omega) 0).trans (f1.trans hz)) ((k1 81 (by omega) (by omega) 0).trans f2) (fun i => k2 78 (by unfold mr_F; omega) (by omega) (by omega) i) ⟨fun z => ?_, fun z => ?_⟩) (fun j j1 j2 i hi => ?_))
    · by_cases e : q = s
      · rw [if_pos e, (g21 82 (by omega)).2.1, ep, if_pos e]; exact hv
      · rw [if_neg e, e82 q e]
        have := T9.1 q hq
        rwa [Nat.mul_zero, Nat.zero_add] at this
    · rw [t2 i hi, (g20 (83 + s) (by omega)).2.1, (g16 (83 + s) (by unfold mr_F; omega)).2.1]
    · rw [t1 i hi, ← (g21 88 (by omega)).2.1]
    · have := (f3 hz).1 z
      unfold rq_at at this ⊢
      simp only [k88]
      exact this
    · have := (f3 hz).2 z
      unfold rl_at at this ⊢
      simp only [k88]
      exact this
    · have i1 : 1 ≤ i := Nat.le_trans (rwl_pos j1 j2) hi
      by_cases e5 : j = 5
      · subst e5
        exact e82 i (by have : 5 ≤ i := hi; omega)
      by_cases e6 : j = 6 + s
      · subst e6
        have w := lX_rwl hs5
        rw [show 77 + (6 + s) = 83 + s by omega, t2 i (fun q => by
          rw [w.1] at hi
          have k01 : k = 0 ∨ k = 1 := by omega
          rcases k01 with rfl | rfl <;> omega), (g20 (83 + s) (by omega)).2.1, (g16 (83 + s) (by unfold mr_F; omega)).2.1]
      by_cases e3 : j = 3
      · subst e3
        exact (k1 80 (by omega) (by omega) i).trans (e16 i i1).1
      by_cases e4 : j = 4
      · subst e4
        exact (k1 81 (by omega) (by omega) i).trans (e16 i i1).2
      exact k2 (77 + j) (by unfold mr_F; omega) (by omega) (by omega) i
  -- what is read has a fault
  have flt : ∀ (k : Nat) (h16 : ax_H), s_at S s x2 = some k → r_f (PR s) ≠ 0 → ax_same mr_F h9 h16 → (∀ i, 1 ≤ i → ax_i h16 80 i = ax_i h9 80 i ∧ ax_i h16 81 i = ax_i h9 81 i) → mr_at h16 s (PR s) → Ret (some (.int (-1))) h16 := by
    intro k h16 hat hz s16 e16 mr16
    have g16 : ag (fun b => ¬ mr_F b) h9 h16 := ag_same s16 (fun x hx => hx)
    refine hflt s k hs5 rfl hat hz h16 (sm_tr H9 (sm_mono s16 (fun x hx => by unfold mr_F at hx; omega))) (mi_new (sm_mono s16 (fun x hx => by unfold mr_F at hx; omega)) iok mi9 ⟨tm_at_ag (m := 77) g16 (fun j hj => by unfold mr_F; omega) T9, ?_, mr16.1, mr16.2.1, fun i hi => ?_⟩ (fun j j1 j2 i hi => ?_))
    · rw [(g16 (77 + 2) (by unfold mr_F; omega)).2.1]; exact E79
    · rw [(g16 (77 + 1) (by unfold mr_F; omega)).2.1]; exact ml9.2.2.2.2 i hi
    · have i1 : 1 ≤ i := Nat.le_trans (rwl_pos j1 j2) hi
      by_cases e3 : j = 3
      · subst e3; exact (e16 i i1).1
      by_cases e4 : j = 4
      · subst e4; exact (e16 i i1).2
      rw [(g16 (77 + j) (by unfold mr_F; omega)).2.1]
  obtain ⟨r5, s5⟩ : ax_r h9 77 5 = some 82 ∧ ax_s h9 82 = (11, 20) := m9.2 4 _ rfl
  have ez : ax_i h9 82 s = nI (s_z S s) := by have := T9.1 s hs5; rwa [Nat.mul_zero, Nat.zero_add] at this
  have in5 : vp_in (nI s) 20 := vp_in_nI (by omega) (by decide)
  have two : ∀ {v : Int32}, Value.category (.int v) = 1 ∧ Value.category (.ref 82) = 1 := ⟨rfl, rfl⟩
  refine ⟨fun hx => ⟨m9.1, mi_is m9 T9 K hs5 ⟨_, rfl, fun q2 => ⟨m9.1, ?_⟩, fun q2 => hno (Or.inr ⟨s, hs5, rfl, ?_⟩) h9 H9 mi9⟩⟩, fun hx => ⟨m9.1, 82, r5, sh_k s5, by rw [s5]; exact in5, fun q2 => ⟨m9.1, ?_⟩, fun q2 => hno (Or.inr ⟨s, hs5, rfl, ?_⟩) h9 H9 mi9⟩⟩
  · obtain ⟨k, hk, rfl⟩ := sp_in_ix (by omega) (b2i_n0.mp q2)
    have hat : s_at S s (nI k) = some k := by unfold s_at; rw [if_neg hx, sp_in_nI (by omega) hk, if_pos rfl, nI_clamp (by omega)]
    refine rd s h9 _ hs5 mi9 E12 (fun h16 s16 e16 mr16 => ⟨_, rfl, fun q3 => ⟨fun _ => ?_, fun z => absurd z hx⟩, fun q3 => flt k h16 hat (of_decide_eq_false (b2i_0.mp q3)) s16 e16 mr16⟩)
    have hz := of_decide_eq_true (b2i_n0.mp q3)
    have m16 := mo_st_same s16 m9
    obtain ⟨r5', s5'⟩ : ax_r h16 77 5 = some 82 ∧ ax_s h16 82 = (11, 20) := m16.2 4 _ rfl
    have ez' : ax_i h16 82 s = nI (s_z S s) := by rw [(s16.2.2.2 82 (by unfold mr_F; omega)).1]; exact ez
    refine ⟨m16.1, 82, r5', two, sh_k s5', by rw [s5']; exact in5, fun _ => ⟨sh_k s5', by rw [s5']; exact in5, m16.1, ?_⟩, fun z => absurd z hx⟩
    rw [nI_clamp (by omega), ez']
    refine fin k h16 _ (by omega) (by omega) hat hz s16 e16 mr16 ?_
    rw [if_neg (by omega)]
    exact Int32.add_zero _
  · unfold s_at; rw [if_neg hx, b2i_0.mp q2]; rfl
  · rw [nI_clamp (by omega), ez] at q2
    have zz : s_z S s < 2 := by
      rcases Nat.lt_or_ge (s_z S s) 2 with z | z
      · exact z
      · exact absurd (by rw [show s_z S s = 2 by omega]; rfl) q2
    have hat : s_at S s x2 = some (s_z S s) := by unfold s_at; rw [if_pos hx, if_pos zz]
    refine rd s h9 _ hs5 mi9 E12 (fun h16 s16 e16 mr16 => ⟨_, rfl, fun q3 => ⟨fun z => absurd hx z, fun _ => ?_⟩, fun q3 => flt (s_z S s) h16 hat (of_decide_eq_false (b2i_0.mp q3)) s16 e16 mr16⟩)
    have hz := of_decide_eq_true (b2i_n0.mp q3)
    have m16 := mo_st_same s16 m9
    obtain ⟨r5', s5'⟩ : ax_r h16 77 5 = some 82 ∧ ax_s h16 82 = (11, 20) := m16.2 4 _ rfl
    have ez' : ax_i h16 82 s = nI (s_z S s) := by rw [(s16.2.2.2 82 (by unfold mr_F; omega)).1]; exact ez
    refine ⟨m16.1, 82, r5', sh_k s5', by rw [s5']; exact in5, m16.1, 82, r5', two, sh_k s5', by rw [s5']; exact in5, fun z => absurd hx z, fun _ => ⟨sh_k s5', by rw [s5']; exact in5, m16.1, ?_⟩⟩
    rw [nI_clamp (by omega), ez']
    refine fin (s_z S s) h16 _ zz (Nat.le_refl _) hat hz s16 e16 mr16 ?_
    rw [if_pos (by omega), nI_succ]
  · rw [nI_clamp (by omega), ez] at q2
    unfold s_at
    rw [if_pos hx, if_neg]
    intro z
    have := (nI_eq (a := s_z S s) (b := 2) (by omega) (by decide)).mp q2
    omega
end
end

section
section
variable {g : ax_G} {Ret : Option Value → ax_H → Prop} {h : ax_H} {S : sT} {Im : Nat → Option sT}
/-! an empty tape, read by the reference -/
def tini (s k : Nat) : Int32 := if s = 0 then (if k < 92 then (if k < 20 then 0 else -1) else 1) else 0
theorem c_msee0 (m : (ax_s h 77).1 = 10) (e : ax_i h 77 12 ≤ ax_i h 77 11) (hq : Ret (some (.int (-1))) h) : mX10_see g [.ref 77] h Ret := eX10_see ⟨m, m, fun _ => hq, fun q => absurd e q⟩
theorem c_mtoken0 (m : (ax_s h 77).1 = 10) (e : ax_i h 77 12 ≤ ax_i h 77 11) (hq : ∀ h', ax_same (fun a => a = 77) h h' → (∀ k, k ≠ 13 → k ≠ 14 → ax_i h' 77 k = ax_i h 77 k) → ax_i h' 77 13 = ax_i h 77 11 → ax_i h' 77 14 = 0 → Ret none h') : mX10_token g [.ref 77] h Ret := by
  refine uX10_token (fun A hA => vX10_token_0 hA ⟨m, c_msee0 m e ⟨_, rfl, fun q => absurd q (by decide), fun _ => ⟨m, c_msee0 m e ⟨_, rfl, fun _ => ⟨m, m, m, ?_⟩, fun q => absurd q (by decide)⟩⟩⟩⟩)
  refine c_msee0 m (by rw [ai_ne (by omega), ai_ne (by omega)]; exact e) ⟨_, rfl, m, fun q => absurd q (by decide), fun _ => ⟨m, ?_⟩⟩
  refine hq _ (sm_tr (sm_tr (sm_pi rfl) (sm_pl rfl)) (sm_pi rfl)) (fun k h1 h2 => ?_) ?_ ai_eq
  · rw [ai_ne (by omega), ai_pl, ai_ne (by omega)]
  · rw [ai_ne (by omega), ai_pl, ai_eq]
theorem c0_0 : (0 : Int32).toNatClampNeg = 0 := rfl
theorem c_mread0 {s : Nat} (m : mo_st h 77) (hs5 : s < 5) (e12 : ax_i h 77 12 = 0) (hq : ∀ h', ax_same mr_F h h' → (∀ i, 1 ≤ i → ax_i h' 80 i = ax_i h 80 i ∧ ax_i h' 81 i = ax_i h 81 i) → mr_at h' s R0 → Ret (some (.int 1)) h') : mX10_readText g [.ref 77, .int (nI s)] h Ret := by
  refine uX10_readText (fun A hA => vX10_readText_0 hA ?_)
  have i0 : vp_in (0 : Int32) 164 := vp_in_nI (n := 0) (N := 164) (by decide) (by decide)
  have i1 : vp_in (1 : Int32) 164 := vp_in_nI (n := 1) (N := 164) (by decide) (by decide)
  have i4 : vp_in (0 : Int32) 4 := vp_in_nI (n := 0) (N := 4) (by decide) (by decide)
  have B : ∀ (hh : ax_H) (v x2 : Int32), ax_same (fun x => x = 88) h hh → (∀ k, k < 164 → ax_i hh 88 k = tini s k) → v = (if s = 0 then 8 else 0) → A (65, [some (.ref 77), some (.int (nI s)), some (.int x2)], [.int v, .int 0, .ref 88], hh, 0, 0) := by
    intro hh v x2 hs row hv
    have m1 := mo_st_same hs m
    obtain ⟨r20, s20⟩ : ax_r hh 77 20 = some 88 ∧ ax_s hh 88 = (11, 164) := m1.2 10 _ rfl
    refine vX10_readText_65 hA ⟨sh_k s20, by rw [s20]; exact i0, m1.1, m1.1, m1.1, m1.1, m1.1, ?_⟩
    rw [c0_0]
    have S8 : ax_same (fun x => x = 77 ∨ x = 88) h (ax_pi (ax_pi (ax_pi (ax_pi (ax_pi hh 88 0 v) 77 22 (-1)) 77 23 (-1)) 77 11 0) 77 18 0) := sm_tr (sm_tr (sm_tr (sm_tr (sm_tr (sm_mono hs (fun x hx => Or.inr hx)) (sm_pi (Or.inr rfl))) (sm_pi (Or.inl rfl))) (sm_pi (Or.inl rfl))) (sm_pi (Or.inl rfl))) (sm_pi (Or.inl rfl))
    have E12 : ax_i (ax_pi (ax_pi (ax_pi (ax_pi (ax_pi hh 88 0 v) 77 22 (-1)) 77 23 (-1)) 77 11 0) 77 18 0) 77 12 = 0 := by rw [ai_ne (by omega), ai_ne (by omega), ai_ne (by omega), ai_ne (by omega), ai_ne (by omega), (hs.2.2.2 77 (by omega)).1]; exact e12
    have E11 : ax_i (ax_pi (ax_pi (ax_pi (ax_pi (ax_pi hh 88 0 v) 77 22 (-1)) 77 23 (-1)) 77 11 0) 77 18 0) 77 11 = 0 := by rw [ai_ne (by omega), ai_eq]
    have E18 : ax_i (ax_pi (ax_pi (ax_pi (ax_pi (ax_pi hh 88 0 v) 77 22 (-1)) 77 23 (-1)) 77 11 0) 77 18 0) 77 18 = 0 := ai_eq
    have E22 : ax_i (ax_pi (ax_pi (ax_pi (ax_pi (ax_pi hh 88 0 v) 77 22 (-1)) 77 23 (-1)) 77 11 0) 77 18 0) 77 22 = -1 := by rw [ai_ne (by omega), ai_ne (by omega), ai_ne (by omega), ai_eq]
    have E23 : ax_i (ax_pi (ax_pi (ax_pi (ax_pi (ax_pi hh 88 0 v) 77 22 (-1)) 77 23 (-1)) 77 11 0) 77 18 0) 77 23 = -1 := by rw [ai_ne (by omega), ai_ne (by omega), ai_eq]
    have E88 : ∀ k, k < 164 → ax_i (ax_pi (ax_pi (ax_pi (ax_pi (ax_pi hh 88 0 v) 77 22 (-1)) 77 23 (-1)) 77 11 0) 77 18 0) 88 k = if k = 0 then v else tini s k := by
      intro k hk
      rw [ai_ne (by omega), ai_ne (by omega), ai_ne (by omega), ai_ne (by omega)]
      by_cases e : k = 0
      · rw [if_pos e, e, ai_eq]
      · rw [if_neg e, ai_ne (by omega)]; exact row k hk
    revert S8 E12 E11 E18 E22 E23 E88
    generalize ax_pi (ax_pi (ax_pi (ax_pi (ax_pi hh 88 0 v) 77 22 (-1)) 77 23 (-1)) 77 11 0) 77 18 0 = h8
    intro S8 E12 E11 E18 E22 E23 E88
    have m8 := mo_st_same S8 m
    refine c_mtoken0 m8.1 (by rw [E12, E11]; decide) (fun h9 s9 k9 _ e14 => ⟨rfl, ?_⟩)
    have m9 := mo_st_same s9 m8
    obtain ⟨r20', s20'⟩ : ax_r h9 77 20 = some 88 ∧ ax_s h9 88 = (11, 164) := m9.2 10 _ rfl
    obtain ⟨r3, s3⟩ : ax_r h9 77 3 = some 80 ∧ ax_s h9 80 = (11, 4) := m9.2 2 _ rfl
    obtain ⟨r4, s4⟩ : ax_r h9 77 4 = some 81 ∧ ax_s h9 81 = (11, 4) := m9.2 3 _ rfl
    have F88 : ∀ k, k < 164 → ax_i h9 88 k = if k = 0 then v else tini s k := fun k hk => by rw [(s9.2.2.2 88 (by omega)).1]; exact E88 k hk
    have F18 : ax_i h9 77 18 = 0 := by rw [k9 18 (by decide) (by decide)]; exact E18
    have F22 : ax_i h9 77 22 = -1 := by rw [k9 22 (by decide) (by decide)]; exact E22
    have F23 : ax_i h9 77 23 = -1 := by rw [k9 23 (by decide) (by decide)]; exact E23
    have S9 : ax_same mr_F h h9 := sm_tr (sm_mono S8 (fun x hx => by unfold mr_F; omega)) (sm_mono s9 (fun x hx => by unfold mr_F; omega))
    have go : ∀ o1 : Option Value, A (146, [some (.ref 77), o1, some (.int 1)], [], h9, 0, 0) := by
      intro o1
      refine vX10_readText_146 hA ⟨m9.1, 80, r3, fun q => absurd q (by decide), fun _ => ⟨m9.1, vX10_readText_163 hA ⟨sh_k s3, by rw [s3]; exact i4, m9.1, 81, r4, fun _ => ⟨m9.1, fun _ => ?_, fun q => ?_⟩, fun q => absurd q (by decide)⟩⟩⟩
      · have i80 : vp_in (0 : Int32) (ax_s h9 80).2 := by rw [s3]; exact i4
        have i81 : vp_in (0 : Int32) (ax_s h9 81).2 := by rw [s4]; exact i4
        refine vX10_readText_195 hA ⟨sh_k s4, i81, m9.1, 80, r3, sh_k s3, i80, fun q => ?_, fun _ => ⟨Or.inr rfl, ?_⟩⟩
        · rw [c0_0, F18] at q
          exact absurd (by rw [ai_ne (by omega), ai_eq]) q
        · rw [c0_0, F18]
          refine hq _ (sm_tr (sm_tr S9 (sm_pi (by unfold mr_F; omega))) (sm_pi (by unfold mr_F; omega))) (fun i hi => ⟨?_, ?_⟩) ⟨by rw [ai_ne (by omega), ai_eq]; rfl, by rw [ai_eq]; rfl, fun _ => ⟨fun z => ?_, fun z => ?_⟩⟩
          · rw [ai_ne (by omega), ai_ne (by omega), (s9.2.2.2 80 (by omega)).1, (S8.2.2.2 80 (by omega)).1]
          · rw [ai_ne (by omega), ai_ne (by omega), (s9.2.2.2 81 (by omega)).1, (S8.2.2.2 81 (by omega)).1]
          · subst z
            have e : ∀ k, k < 164 → ax_i (ax_pi (ax_pi h9 80 0 0) 81 0 (-1)) 88 k = if k = 0 then v else tini 0 k := fun k hk => by rw [ai_ne (by omega), ai_ne (by omega)]; exact F88 k hk
            refine ⟨⟨by decide, by decide⟩, ?_, ?_, fun p hp => absurd hp (Nat.not_lt_zero p), fun k hk => ?_, fun k hk => ?_, fun p q hp => absurd hp (Nat.not_lt_zero p), fun p q hp => absurd hp (Nat.not_lt_zero p)⟩
            · rw [e 0 (by decide), if_pos rfl, hv]; rfl
            · rw [e 1 (by decide)]; rfl
            · rw [e (8 + k) (by omega), if_neg (by omega)]; unfold tini; rw [if_pos rfl, if_pos (by omega), if_pos (by omega)]; rfl
            · rw [e (14 + k) (by omega), if_neg (by omega)]; unfold tini; rw [if_pos rfl, if_pos (by omega), if_pos (by omega)]; rfl
          · refine ⟨Nat.zero_le _, ?_, fun i j hi => absurd hi (Nat.not_lt_zero i)⟩
            rw [ai_ne (by omega), ai_ne (by omega), F88 0 (by decide), if_pos rfl, hv, if_neg (by omega)]; rfl
      · rw [c0_0, F18, ai_ne (by omega), F18] at q; exact absurd (by decide) q
    refine ⟨m9.1, uX10_lines (fun A' hA' => vX10_lines_0 hA' (vX10_lines_2 hA' ⟨fun q => absurd q (by decide), fun _ => ⟨m9.1, fun _ => ⟨Or.inr rfl, ?_⟩, fun q => absurd e14 q⟩⟩))⟩
    refine ⟨_, rfl, fun q => absurd q (by decide), fun _ => ⟨fun hs0 => go _, fun hs0 => ⟨m9.1, fun q => absurd F18 q, fun _ => ⟨m9.1, m9.1, 88, r20', sh_k s20', by rw [s20']; exact i0, fun q => ?_, fun _ => ⟨m9.1, m9.1, 88, r20', sh_k s20', by rw [s20']; exact i1, fun _ => go _, fun q => ?_⟩⟩⟩⟩⟩
    · have z : s = 0 := by
        rcases Nat.eq_zero_or_pos s with z | z
        · exact z
        · exact absurd hs0 (nI_ne0 z (by omega))
      rw [F88 0 (by decide), if_pos rfl, hv, if_pos z, F22] at q
      exact absurd q (by decide)
    · have z : s = 0 := by
        rcases Nat.eq_zero_or_pos s with z | z
        · exact z
        · exact absurd hs0 (nI_ne0 z (by omega))
      rw [F23, F88 1 (by decide), if_neg (by decide), z] at q
      exact absurd (by decide) q
  have key : ∀ n i : Nat, i + n = 164 → ∀ hh : ax_H, ax_same (fun x => x = 88) h hh → (∀ k, k < i → ax_i hh 88 k = tini s k) → A (2, [some (.ref 77), some (.int (nI s)), some (.int (nI i))], [], hh, 0, 0) := by
    intro n
    induction n with
    | zero =>
      intro i hi hh hs row
      obtain rfl : i = 164 := by omega
      have m1 := mo_st_same hs m
      obtain ⟨r20, s20⟩ : ax_r hh 77 20 = some 88 ∧ ax_s hh 88 = (11, 164) := m1.2 10 _ rfl
      refine vX10_readText_2 hA ⟨fun _ => ⟨m1.1, 88, r20, fun q => B hh _ _ hs row ?_, fun q => B hh _ _ hs row ?_⟩, fun q => absurd (by decide) q⟩
      · rw [if_neg]; intro z; exact q (by rw [z]; rfl)
      · rw [if_pos]
        rcases Nat.eq_zero_or_pos s with z | z
        · exact z
        · exact absurd q (nI_ne0 z (by omega))
    | succ n ih =>
      intro i hi hh hs row
      have m1 := mo_st_same hs m
      obtain ⟨r20, s20⟩ : ax_r hh 77 20 = some 88 ∧ ax_s hh 88 = (11, 164) := m1.2 10 _ rfl
      have put : ∀ v : Int32, v = tini s i → A (43, [some (.ref 77), some (.int (nI s)), some (.int (nI i))], [.int v, .int (nI i), .ref 88], hh, 0, 0) := by
        intro v hv
        refine vX10_readText_43 hA ⟨sh_k s20, by rw [s20]; exact vp_in_nI (by omega) (by decide), ?_⟩
        rw [nI_clamp (by omega), ← nI_succ]
        refine ih (i + 1) (by omega) _ (sm_tr hs (sm_pi rfl)) (fun k hk => ?_)
        by_cases e : k = i
        · rw [e, ai_eq]; exact hv
        · rw [ai_ne (by omega)]; exact row k (by omega)
      have l92 : nI i < 92 ↔ i < 92 := nI_ltI (a := i) (b := 92) (by omega) (by decide)
      have l20 : nI i < 20 ↔ i < 20 := nI_ltI (a := i) (b := 20) (by omega) (by decide)
      refine vX10_readText_2 hA ⟨fun q => absurd q (nI_ge (a := i) (b := 164) (by omega) (by decide)), fun _ => ⟨m1.1, 88, r20, fun q => ⟨fun q2 => ⟨fun q3 => put _ ?_, fun q3 => put _ ?_⟩, fun q2 => put _ ?_⟩, fun q => put _ ?_⟩⟩
      all_goals unfold tini
      · rw [if_pos, if_pos (l92.mp q2), if_pos (l20.mp q3)]
        rcases Nat.eq_zero_or_pos s with z | z
        · exact z
        · exact absurd q (nI_ne0 z (by omega))
      · rw [if_pos, if_pos (l92.mp q2), if_neg (fun z => q3 (l20.mpr z))]
        rcases Nat.eq_zero_or_pos s with z | z
        · exact z
        · exact absurd q (nI_ne0 z (by omega))
      · rw [if_pos, if_neg (fun z => q2 (l92.mpr z))]
        rcases Nat.eq_zero_or_pos s with z | z
        · exact z
        · exact absurd q (nI_ne0 z (by omega))
      · rw [if_neg]; intro z; exact q (by rw [z]; rfl)
  exact key 164 0 (by omega) h sm_rf (fun k hk => absurd hk (Nat.not_lt_zero k))
end
end

section
section
variable {g : ax_G} {Ret : Option Value → ax_H → Prop} {h : ax_H} {z : Nat → Nat} {DD : Nat → rD} {N : Nat → Nat → Nat} {C : Nat → Nat → Nat → Nat → Int32} {x1 x2 x3 : Int32}
/-! ERRAND, TRAIN, SIGHT of the reference -/
theorem sp_m1 {n : Nat} : sp_in (-1) n = false := dec_f (Or.inl (by decide))
theorem ll_no {s : Nat} {v : Int32} (e : sp_in x1 (z s) = false) : sp_ll z N C s x1 x2 x3 v = v := by unfold sp_ll; rw [e]; rfl
theorem ll_yes {s r : Nat} {v : Int32} (hz : z s ≤ 2) (hr : r < z s) : sp_ll z N C s (nI r) x2 x3 v = (if x2 = -1 ∧ x3 = 0 then nI (N s r) else if sp_in x2 (N s r) && sp_in x3 (lw s) then C s r x2.toNatClampNeg x3.toNatClampNeg else v) := by unfold sp_ll; rw [sp_in_nI (by omega) hr, if_pos rfl, nI_clamp (by omega)]
theorem ll_1 {n w : Nat} {v u : Int32} {c : Int32} (e : ¬ x2 = -1) (f : sp_in x2 n = false) : (if x2 = -1 ∧ x3 = 0 then u else if sp_in x2 n && sp_in x3 w then c else v) = v := by rw [if_neg (fun q => e q.1), f]; rfl
theorem ll_2 {n w : Nat} {v u : Int32} {c : Int32} (e : ¬ x2 = -1) (f : sp_in x3 w = false) : (if x2 = -1 ∧ x3 = 0 then u else if sp_in x2 n && sp_in x3 w then c else v) = v := by rw [if_neg (fun q => e q.1), f, Bool.and_false]; rfl
theorem ll_3 {n w : Nat} {v u : Int32} {c : Int32} (e : ¬ x2 = -1) (f : sp_in x2 n = true) (f' : sp_in x3 w = true) : (if x2 = -1 ∧ x3 = 0 then u else if sp_in x2 n && sp_in x3 w then c else v) = c := by rw [if_neg (fun q => e q.1), f, f']; rfl
theorem ll_4 {n w : Nat} {v u : Int32} {c : Int32} (e : x2 = -1) (f : ¬ x3 = 0) : (if x2 = -1 ∧ x3 = 0 then u else if sp_in x2 n && sp_in x3 w then c else v) = v := by rw [if_neg (fun q => f q.2), e, sp_m1]; rfl
theorem ll_5 {n w : Nat} {v u : Int32} {c : Int32} (e : x2 = -1) (f : x3 = 0) : (if x2 = -1 ∧ x3 = 0 then u else if sp_in x2 n && sp_in x3 w then c else v) = u := if_pos ⟨e, f⟩
theorem q10_errand (a : tc h z DD N C) (hq : ∀ h', ax_same md_F h h' → Ret (some (.int (sp_ll z N C 2 x1 x2 x3 (-2)))) h') : mX10_errand g [.ref 77, .int x1, .int x2, .int x3] h Ret := by
  have K := a.2.2.2.2
  have z2 := K.1 2 (by decide)
  obtain ⟨a1, T1, hs1⟩ := q_code (v := 0) a.2.1 a.2.2.2.1
  refine eX10_errand ⟨a.2.1.1, a1.1, c_mhasErrands a1 T1 K (fun h2 hs2 e41 e45 e42 => ?_)⟩
  have hs3 : ax_same md_F (ax_pi h 77 0 0) h2 := sm_mono hs2.1 (fun x q => q.elim (fun e => Or.inl e) False.elim)
  have hq := hq h2 (sm_tr hs1 hs3)
  refine ⟨_, rfl, fun q => ?_, fun q => ?_⟩
  · obtain ⟨r, hr, rfl⟩ := sp_in_ix (by omega) (b2i_n0.mp q)
    have a2 := mo_st_same hs3 a1
    have T2 : tm_at h2 77 0 z DD N C := tm_at_same hs3 (fun j hj q => by unfold md_F at q; omega) T1
    rw [sp_in_nI (by omega) hr, if_pos rfl, nI_clamp (by omega)] at e42
    have nb : N 2 r ≤ 6 := (K.2.2 2 r (by decide) (by decide) hr).1
    rw [ll_yes z2 hr] at hq
    refine ⟨fun q2 => ⟨a2.1, ?_⟩, fun q2 => ⟨fun q3 => ?_, fun q3 => ⟨a2.1, ?_⟩⟩⟩
    · rw [e42]
      refine c_minN (by omega) ⟨_, rfl, fun q3 => ?_, fun q3 => ?_⟩
      · rw [ll_1 q2 (b2i_0.mp q3)] at hq; exact hq
      · have f3 := b2i_n0.mp q3
        obtain ⟨i, hi, rfl⟩ := sp_in_ix (by omega) f3
        show mX10_in g [.int x3, .int 0, .int (nI 3 - 1)] h2 _
        refine c_minN (by decide) ⟨_, rfl, fun q4 => ?_, fun q4 => ⟨a2.1, ?_⟩⟩
        · rw [ll_2 q2 (show sp_in x3 (lw 2) = false from b2i_0.mp q4)] at hq; exact hq
        · have f4 := b2i_n0.mp q4
          obtain ⟨j, hj, rfl⟩ := sp_in_ix (by decide) f4
          rw [ll_3 q2 f3 (show sp_in (nI j) (lw 2) = true from f4), nI_clamp (by omega), nI_clamp (by omega)] at hq
          exact c_merrandOf a2 T2 K hr e41 hi hj ⟨_, rfl, hq⟩
    · rw [ll_4 q2 q3] at hq; exact hq
    · rw [ll_5 q2 q3] at hq; rw [e42]; exact hq
  · rw [ll_no (b2i_0.mp q)] at hq; exact hq
theorem q10_train (a : tc h z DD N C) (hq : ∀ h', ax_same md_F h h' → Ret (some (.int (sp_ll z N C 3 x1 x2 x3 (-2)))) h') : mX10_train g [.ref 77, .int x1, .int x2, .int x3] h Ret := by
  have K := a.2.2.2.2
  have z2 := K.1 3 (by decide)
  obtain ⟨a1, T1, hs1⟩ := q_code (v := 0) a.2.1 a.2.2.2.1
  obtain ⟨a2, T2, hs2⟩ := mf_keep (k := 47) (v := x1) a1 T1
  have e47 : ax_i (ax_pi (ax_pi h 77 0 0) 77 47 x1) 77 47 = x1 := ai_eq
  refine eX10_train ⟨a.2.1.1, a1.1, c_mhasTable a1 T1 K ?_⟩
  have hq := hq _ (sm_tr hs1 hs2)
  revert a2 T2 hs2 e47 hq
  generalize ax_pi (ax_pi h 77 0 0) 77 47 x1 = h2
  intro a2 T2 hs2 e47 hq
  refine ⟨_, rfl, fun q => ?_, fun q => ?_⟩
  · obtain ⟨r, hr, rfl⟩ := sp_in_ix (by omega) (b2i_n0.mp q)
    have nb : N 3 r ≤ 8 := (K.2.2 3 r (by decide) (by decide) hr).1
    rw [ll_yes z2 hr] at hq
    refine ⟨fun q2 => ⟨a2.1, c_mtrains a2 T2 K hr e47 ⟨_, rfl, ?_⟩⟩, fun q2 => ⟨fun q3 => ?_, fun q3 => ⟨a2.1, c_mtrains a2 T2 K hr e47 ⟨_, rfl, ?_⟩⟩⟩⟩
    · refine c_minN (by omega) ⟨_, rfl, fun q3 => ?_, fun q3 => ?_⟩
      · rw [ll_1 q2 (b2i_0.mp q3)] at hq; exact hq
      · have f3 := b2i_n0.mp q3
        obtain ⟨i, hi, rfl⟩ := sp_in_ix (by omega) f3
        show mX10_in g [.int x3, .int 0, .int (nI 2 - 1)] h2 _
        refine c_minN (by decide) ⟨_, rfl, fun q4 => ?_, fun q4 => ⟨a2.1, ?_⟩⟩
        · rw [ll_2 q2 (show sp_in x3 (lw 3) = false from b2i_0.mp q4)] at hq; exact hq
        · have f4 := b2i_n0.mp q4
          obtain ⟨j, hj, rfl⟩ := sp_in_ix (by decide) f4
          rw [ll_3 q2 f3 (show sp_in (nI j) (lw 3) = true from f4), nI_clamp (by omega), nI_clamp (by omega)] at hq
          exact c_mtrainOf a2 T2 K hr e47 hi hj ⟨_, rfl, hq⟩
    · rw [ll_4 q2 q3] at hq; exact hq
    · rw [ll_5 q2 q3] at hq; exact hq
  · rw [ll_no (b2i_0.mp q)] at hq; exact hq
theorem q10_sight (a : tc h z DD N C) (hq : ∀ h', ax_same md_F h h' → Ret (some (.int (sp_ll z N C 4 x1 x2 x3 (-1000000)))) h') : mX10_sight g [.ref 77, .int x1, .int x2, .int x3] h Ret := by
  have K := a.2.2.2.2
  have z2 := K.1 4 (by decide)
  obtain ⟨a1, T1, hs1⟩ := q_code (v := 0) a.2.1 a.2.2.2.1
  obtain ⟨a2, T2, hs2⟩ := mf_keep (k := 49) (v := x1) a1 T1
  have e49 : ax_i (ax_pi (ax_pi h 77 0 0) 77 49 x1) 77 49 = x1 := ai_eq
  refine eX10_sight ⟨a.2.1.1, a1.1, c_mhasSights a1 T1 K ?_⟩
  have hq := hq _ (sm_tr hs1 hs2)
  revert a2 T2 hs2 e49 hq
  generalize ax_pi (ax_pi h 77 0 0) 77 49 x1 = h2
  intro a2 T2 hs2 e49 hq
  refine ⟨_, rfl, fun q => ?_, fun q => ?_⟩
  · obtain ⟨r, hr, rfl⟩ := sp_in_ix (by omega) (b2i_n0.mp q)
    have nb : N 4 r ≤ 6 := (K.2.2 4 r (by decide) (by decide) hr).1
    rw [ll_yes z2 hr] at hq
    have ei : (19 : Int32) * nI r = nI (19 * r) := by rw [show (19 : Int32) = nI 19 from rfl, pk_mul]
    have en : ax_i h2 87 (19 * r) = nI (N 4 r) := (tm_ln T2 (s := 4) (by decide) (by decide) hr).1
    refine ⟨a2.1, 87, (mo_si a2).1, sh_k (mo_si a2).2, by rw [ei, (mo_si a2).2]; exact vp_in_nI (by omega) (by decide), ?_⟩
    rw [ei, nI_clamp (by omega), en]
    refine ⟨fun q2 => ?_, fun q2 => ⟨fun q3 => ?_, fun q3 => ?_⟩⟩
    · refine c_minN (by omega) ⟨_, rfl, fun q3 => ?_, fun q3 => ?_⟩
      · rw [ll_1 q2 (b2i_0.mp q3)] at hq; exact hq
      · have f3 := b2i_n0.mp q3
        obtain ⟨i, hi, rfl⟩ := sp_in_ix (by omega) f3
        show mX10_in g [.int x3, .int 0, .int (nI 3 - 1)] h2 _
        refine c_minN (by decide) ⟨_, rfl, fun q4 => ?_, fun q4 => ⟨a2.1, ?_⟩⟩
        · rw [ll_2 q2 (show sp_in x3 (lw 4) = false from b2i_0.mp q4)] at hq; exact hq
        · have f4 := b2i_n0.mp q4
          obtain ⟨j, hj, rfl⟩ := sp_in_ix (by decide) f4
          rw [ll_3 q2 f3 (show sp_in (nI j) (lw 4) = true from f4), nI_clamp (by omega), nI_clamp (by omega)] at hq
          exact c_msightOf a2 T2 K hr e49 hi hj ⟨_, rfl, hq⟩
    · rw [ll_4 q2 q3] at hq; exact hq
    · rw [ll_5 q2 q3] at hq; exact hq
  · rw [ll_no (b2i_0.mp q)] at hq; exact hq
end
end

