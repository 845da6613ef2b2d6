section
section
/-! TOKENS: bytes T, the first n of them; from place a on -/
def isL (x : Int32) : Bool := decide (97 ≤ x ∧ x ≤ 122)
def isD (x : Int32) : Bool := decide (48 ≤ x ∧ x ≤ 57)
def isB (x : Int32) : Bool := decide (x = 10 ∨ x = 32)
def rnf (P : Int32 → Bool) (T : Nat → Int32) (n : Nat) : Nat → Nat → Nat
  | 0, a => a
  | k + 1, a => if a < n ∧ P (T a) = true then rnf P T n k (a + 1) else a
/-- the first place from a on that is the end or not of the kind P -/
def rn (P : Int32 → Bool) (T : Nat → Int32) (n a : Nat) : Nat := rnf P T n (n - a) a
theorem rn_go {P : Int32 → Bool} {T : Nat → Int32} {n a : Nat} (h : a < n) (p : P (T a) = true) : rn P T n a = rn P T n (a + 1) := by
  unfold rn
  rw [show n - a = (n - (a + 1)) + 1 by omega]
  show (if a < n ∧ P (T a) = true then _ else a) = _
  rw [if_pos ⟨h, p⟩]
theorem rn_no {P : Int32 → Bool} {T : Nat → Int32} {n a : Nat} (h : ¬ (a < n ∧ P (T a) = true)) : rn P T n a = a := by
  unfold rn
  cases e : n - a with
  | zero => rfl
  | succ k => show (if a < n ∧ P (T a) = true then _ else a) = _; rw [if_neg h]
theorem rn_bd {P : Int32 → Bool} {T : Nat → Int32} {n : Nat} : ∀ k a : Nat, a + k = n → a ≤ rn P T n a ∧ rn P T n a ≤ n ∧ ∀ j, a ≤ j → j < rn P T n a → P (T j) = true := by
  intro k
  induction k with
  | zero =>
    intro a ha
    rw [rn_no (by omega)]
    exact ⟨Nat.le_refl _, by omega, fun j h1 h2 => by omega⟩
  | succ k ih =>
    intro a ha
    by_cases q : a < n ∧ P (T a) = true
    · rw [rn_go q.1 q.2]
      obtain ⟨h1, h2, h3⟩ := ih (a + 1) (by omega)
      refine ⟨by omega, h2, fun j hj1 hj2 => ?_⟩
      by_cases e : j = a
      · rw [e]; exact q.2
      · exact h3 j (by omega) hj2
    · rw [rn_no q]
      exact ⟨Nat.le_refl _, by omega, fun j h1 h2 => by omega⟩
theorem rn_le {P : Int32 → Bool} {T : Nat → Int32} {n a : Nat} (h : a ≤ n) : a ≤ rn P T n a ∧ rn P T n a ≤ n := ⟨(rn_bd (n - a) a (by omega)).1, (rn_bd (n - a) a (by omega)).2.1⟩
def tks (T : Nat → Int32) (n a : Nat) : Nat := rn isB T n a
/-- kinds: 0 end, 1 word, 2 number, 3 semicolon, 4 no token -/
def tkk (T : Nat → Int32) (n a : Nat) : Nat := if tks T n a < n then (if isL (T (tks T n a)) then 1 else if isD (T (tks T n a)) then (if rn isD T n (tks T n a) - tks T n a ≤ 3 then 2 else 4) else if T (tks T n a) = 59 then 3 else 4) else 0
def tkb (T : Nat → Int32) (n a : Nat) : Nat := if tks T n a < n then (if isL (T (tks T n a)) then rn isL T n (tks T n a) else if isD (T (tks T n a)) then rn isD T n (tks T n a) else tks T n a + 1) else tks T n a
def dg (x : Int32) : Nat := (x.toInt - 48).toNat
def dval (T : Nat → Int32) (s : Nat) : Nat → Nat
  | 0 => 0
  | k + 1 => dval T s k * 10 + dg (T (s + k))
def tkn (T : Nat → Int32) (n a : Nat) : Nat := dval T (tks T n a) (tkb T n a - tks T n a)
theorem tk_bd {T : Nat → Int32} {n a : Nat} (h : a ≤ n) : a ≤ tks T n a ∧ tks T n a ≤ tkb T n a ∧ tkb T n a ≤ n ∧ (tkk T n a ≠ 0 → tks T n a < tkb T n a) := by
  obtain ⟨h1, h2⟩ := rn_le (P := isB) (T := T) h
  have h2 : tks T n a ≤ n := h2
  have h1 : a ≤ tks T n a := h1
  refine ⟨h1, ?_⟩
  unfold tkb tkk
  by_cases q : tks T n a < n
  · rw [if_pos q, if_pos q]
    by_cases q1 : isL (T (tks T n a)) = true
    · rw [if_pos q1, if_pos q1]
      have := rn_le (P := isL) (T := T) (n := n) (a := tks T n a + 1) (by omega)
      rw [rn_go q q1]
      exact ⟨by omega, this.2, fun _ => by omega⟩
    · rw [if_neg q1, if_neg q1]
      by_cases q2 : isD (T (tks T n a)) = true
      · rw [if_pos q2, if_pos q2]
        have := rn_le (P := isD) (T := T) (n := n) (a := tks T n a + 1) (by omega)
        rw [rn_go q q2]
        exact ⟨by omega, this.2, fun _ => by omega⟩
      · rw [if_neg q2, if_neg q2]
        exact ⟨by omega, by omega, fun _ => by omega⟩
  · rw [if_neg q, if_neg q]
    exact ⟨Nat.le_refl _, h2, fun z => absurd rfl z⟩
theorem dg_nI {x : Int32} (h : isD x = true) : x = nI (48 + dg x) ∧ dg x ≤ 9 := by
  obtain ⟨h1, h2⟩ := of_decide_eq_true h
  have h1 := i_le.mp h1
  have h2 := i_le.mp h2
  have h1 : (48 : Int) ≤ x.toInt := h1
  have h2 : x.toInt ≤ (57 : Int) := h2
  unfold dg
  refine ⟨i_inj ?_, by omega⟩
  rw [nI_toInt (by omega)]
  omega
theorem dval_3 {T : Nat → Int32} {s k : Nat} (hk : k ≤ 3) (h : ∀ j, j < k → isD (T (s + j)) = true) : dval T s k ≤ 999 := by
  have d : ∀ j, j < k → dg (T (s + j)) ≤ 9 := fun j hj => (dg_nI (h j hj)).2
  match k, hk with
  | 0, _ => exact Nat.zero_le _
  | 1, _ => have := d 0 (by decide); show 0 * 10 + dg (T (s + 0)) ≤ 999; omega
  | 2, _ => have := d 0 (by decide); have := d 1 (by decide); show (0 * 10 + dg (T (s + 0))) * 10 + dg (T (s + 1)) ≤ 999; omega
  | 3, _ => have := d 0 (by decide); have := d 1 (by decide); have := d 2 (by decide); show ((0 * 10 + dg (T (s + 0))) * 10 + dg (T (s + 1))) * 10 + dg (T (s + 2)) ≤ 999; omega
theorem dval_nI {T : Nat → Int32} {s k : Nat} (h : isD (T (s + k)) = true) : nI (dval T s k) * 10 + T (s + k) - 48 = nI (dval T s (k + 1)) := by
  obtain ⟨e, -⟩ := dg_nI h
  rw [show nI (dval T s k) * 10 + T (s + k) = nI (dval T s k * 10 + (48 + dg (T (s + k)))) by
    rw [e, show (10 : Int32) = nI 10 from rfl, pk_mul, nI_add, ← e], show dval T s k * 10 + (48 + dg (T (s + k))) = dval T s (k + 1) + 48 by show _ = dval T s k * 10 + dg (T (s + k)) + 48; omega, ← nI_add, show nI 48 = (48 : Int32) from rfl]
  exact Int32.add_sub_cancel _ _
end
end

section
section
variable {g : ax_G} {Ret : Option Value → ax_H → Prop} {h : ax_H} {T : Nat → Int32} {n a : Nat}
/-! the class's step() -/
def tp_at (h : ax_H) (T : Nat → Int32) : Prop := (ax_s h 35).1 = 5 ∧ ax_r h 35 0 = some 2 ∧ ax_s h 2 = (12, 600) ∧ ∀ i, i < 600 → ax_i h 2 i = T i
theorem tp_same {F : Nat → Prop} {h' : ax_H} (s : ax_same F h h') (i : ¬ F 2) (t : tp_at h T) : tp_at h' T := ⟨by rw [s.2.1]; exact t.1, by rw [s.2.2.1]; exact t.2.1, by rw [s.2.1]; exact t.2.2.1, fun j hj => by rw [(s.2.2.2 2 i).1]; exact t.2.2.2 j hj⟩
theorem c_isL {x : Int32} (hq : Ret (some (.int (b2i (isL x)))) h) : mX5_isLetter g [.int x] h Ret := by
  unfold isL at hq
  refine eX5_isLetter ⟨fun q => ⟨Or.inl rfl, ?_⟩, fun q => ⟨fun q2 => ⟨Or.inl rfl, ?_⟩, fun q2 => ⟨Or.inr rfl, ?_⟩⟩⟩
  · rw [decide_eq_false (fun z => absurd q (nt_lt.mpr z.1))] at hq; exact hq
  · rw [decide_eq_false (fun z => absurd q2 (nt_lt.mpr z.2))] at hq; exact hq
  · rw [decide_eq_true ⟨nt_lt.mp q, nt_lt.mp q2⟩] at hq; exact hq
theorem c_isD {x : Int32} (hq : Ret (some (.int (b2i (isD x)))) h) : mX5_isDigit g [.int x] h Ret := by
  unfold isD at hq
  refine eX5_isDigit ⟨fun q => ⟨Or.inl rfl, ?_⟩, fun q => ⟨fun q2 => ⟨Or.inl rfl, ?_⟩, fun q2 => ⟨Or.inr rfl, ?_⟩⟩⟩
  · rw [decide_eq_false (fun z => absurd q (nt_lt.mpr z.1))] at hq; exact hq
  · rw [decide_eq_false (fun z => absurd q2 (nt_lt.mpr z.2))] at hq; exact hq
  · rw [decide_eq_true ⟨nt_lt.mp q, nt_lt.mp q2⟩] at hq; exact hq
/-- the reader's fields k with J k may change, nothing else -/
def rf (J : Nat → Prop) (h h' : ax_H) : Prop := ax_same (fun b => b = 35) h h' ∧ ∀ k, ¬ J k → ax_i h' 35 k = ax_i h 35 k
theorem rf_rf {J : Nat → Prop} : rf J h h := ⟨sm_rf, fun _ _ => rfl⟩
theorem rf_tr {J : Nat → Prop} {h1 h2 : ax_H} (x : rf J h h1) (y : rf J h1 h2) : rf J h h2 := ⟨sm_tr x.1 y.1, fun k hk => (y.2 k hk).trans (x.2 k hk)⟩
theorem rf_pi {J : Nat → Prop} {k : Nat} {v : Int32} (hJ : J k) : rf J h (ax_pi h 35 k v) := ⟨sm_pi rfl, fun j hj => ai_ne (Or.inr (fun e => hj (e ▸ hJ)))⟩
theorem rf_mono {J J' : Nat → Prop} {h1 : ax_H} (x : rf J h h1) (i : ∀ k, J k → J' k) : rf J' h h1 := ⟨x.1, fun k hk => x.2 k (fun q => hk (i k q))⟩
theorem rf_tp {J : Nat → Prop} {h1 : ax_H} (x : rf J h h1) (t : tp_at h T) : tp_at h1 T := tp_same x.1 (by omega) t
theorem c_stepNumber {s : Nat} (t : tp_at h T) (hn : n ≤ 600) (hs : s < n) (e11 : ax_i h 35 11 = nI n) (e8 : ax_i h 35 8 = nI s) (e7 : ax_i h 35 7 = nI s) (hq : ∀ h', rf (fun k => k = 6 ∨ k = 8 ∨ k = 9) h h' → ax_i h' 35 6 = nI (if rn isD T n s - s ≤ 3 then 2 else 4) → ax_i h' 35 8 = nI (rn isD T n s) → ax_i h' 35 9 = nI (dval T s (rn isD T n s - s)) → Ret none h') : mX5_stepNumber g [.ref 35] h Ret := by
  refine uX5_stepNumber (fun A hA => vX5_stepNumber_0 hA ⟨t.1, ?_⟩)
  have key : ∀ m k : Nat, s + k + m = n → ∀ hh : ax_H, rf (fun k => k = 6 ∨ k = 8 ∨ k = 9) h hh → ax_i hh 35 8 = nI (s + k) → ax_i hh 35 9 = nI (dval T s k) → rn isD T n (s + k) = rn isD T n s → A (5, [some (.ref 35)], [], hh, 0, 0) := by
    intro m
    induction m with
    | zero =>
      intro k hk hh r f8 f9 er
      obtain ⟨t1, t2, t3, t4⟩ := rf_tp r t
      have f11 : ax_i hh 35 11 = nI n := by rw [r.2 11 (by omega)]; exact e11
      have f7 : ax_i hh 35 7 = nI s := by rw [r.2 7 (by omega)]; exact e7
      have eE : rn isD T n s = s + k := by rw [← er, rn_no (by omega)]
      have ed : nI (s + k) - nI s = nI k := by rw [Nat.add_comm, ← nI_add]; exact Int32.add_sub_cancel _ _
      rw [eE, show s + k - s = k by omega] at hq
      refine vX5_stepNumber_5 hA ⟨t1, t1, fun _ => ⟨t1, t1, ?_⟩, fun q => ?_⟩
      · rw [f8, f7, ed]
        refine ⟨fun q => ⟨t1, hq _ (rf_tr r (rf_pi (Or.inl rfl))) ?_ ?_ ?_⟩, fun q => ⟨t1, hq _ (rf_tr r (rf_pi (Or.inl rfl))) ?_ ?_ ?_⟩⟩
        · have q := (nI_leI (a := k) (b := 3) (by omega) (by decide)).mp q
          rw [ai_eq, if_pos q]; rfl
        · rw [ai_ne (by omega)]; exact f8
        · rw [ai_ne (by omega)]; exact f9
        · rw [ai_eq, if_neg (fun z => q (nI_le (a := k) (b := 3) z (by decide)))]; rfl
        · rw [ai_ne (by omega)]; exact f8
        · rw [ai_ne (by omega)]; exact f9
      · rw [f11, f8] at q; exact absurd (nI_le (by omega) (by omega)) q
    | succ m ih =>
      intro k hk hh r f8 f9 er
      obtain ⟨t1, t2, t3, t4⟩ := rf_tp r t
      have f11 : ax_i hh 35 11 = nI n := by rw [r.2 11 (by omega)]; exact e11
      have f7 : ax_i hh 35 7 = nI s := by rw [r.2 7 (by omega)]; exact e7
      have i8 : vp_in (ax_i hh 35 8) (ax_s hh 2).2 := by rw [f8, t3]; exact vp_in_nI (by omega) (by decide)
      have ed : nI (s + k) - nI s = nI k := by rw [Nat.add_comm, ← nI_add]; exact Int32.add_sub_cancel _ _
      have ev : ax_i hh 2 (ax_i hh 35 8).toNatClampNeg = T (s + k) := by rw [f8, nI_clamp (by omega)]; exact t4 _ (by omega)
      refine vX5_stepNumber_5 hA ⟨t1, t1, fun q => ?_, fun _ => ⟨t1, 2, t2, t1, sh_k t3, i8, ?_⟩⟩
      · rw [f11, f8] at q; exact absurd q (nI_ge (by omega) (by omega))
      rw [ev]
      refine c_isD ⟨_, rfl, fun q => ⟨t1, t1, ?_⟩, fun q => ⟨t1, t1, 2, t2, t1, sh_k t3, i8, t1, rfl, t1, t1, ?_⟩⟩
      · have eE : rn isD T n s = s + k := by rw [← er, rn_no (fun z => by rw [b2i_0.mp q] at z; exact absurd z.2 (by decide))]
        rw [eE, show s + k - s = k by omega] at hq
        rw [f8, f7, ed]
        refine ⟨fun q => ⟨t1, hq _ (rf_tr r (rf_pi (Or.inl rfl))) ?_ ?_ ?_⟩, fun q => ⟨t1, hq _ (rf_tr r (rf_pi (Or.inl rfl))) ?_ ?_ ?_⟩⟩
        · have q := (nI_leI (a := k) (b := 3) (by omega) (by decide)).mp q
          rw [ai_eq, if_pos q]; rfl
        · rw [ai_ne (by omega)]; exact f8
        · rw [ai_ne (by omega)]; exact f9
        · rw [ai_eq, if_neg (fun z => q (nI_le (a := k) (b := 3) z (by decide)))]; rfl
        · rw [ai_ne (by omega)]; exact f8
        · rw [ai_ne (by omega)]; exact f9
      · have dd := b2i_n0.mp q
        rw [ev, f9, dval_nI dd]
        refine ih (k + 1) (by omega) _ (rf_tr r (rf_tr (rf_pi (Or.inr (Or.inr rfl))) (rf_pi (Or.inr (Or.inl rfl))))) ?_ ?_ ?_
        · rw [ai_eq, ai_ne (by omega), f8, ← nI_succ]; rfl
        · rw [ai_ne (by omega), ai_eq]
        · rw [← er, rn_go (a := s + k) (by omega) dd]; rfl
  exact key (n - s) 0 (by omega) _ (rf_pi (Or.inr (Or.inr rfl))) (by rw [ai_ne (by omega)]; exact e8) ai_eq rfl
/-- step(): the next token -/
theorem c_step5 (t : tp_at h T) (hn : n ≤ 600) (ha : a ≤ n) (e11 : ax_i h 35 11 = nI n) (e8 : ax_i h 35 8 = nI a) (hq : ∀ h', rf (fun k => 6 ≤ k ∧ k ≤ 9) h h' → ax_i h' 35 6 = nI (tkk T n a) → ax_i h' 35 7 = nI (tks T n a) → ax_i h' 35 8 = nI (tkb T n a) → (tkk T n a = 2 → ax_i h' 35 9 = nI (tkn T n a)) → Ret none h') : mX5_step g [.ref 35] h Ret := by
  refine uX5_step (fun A hA => ?_)
  -- letters
  have lets : ∀ m k : Nat, k + m = n → tks T n a ≤ k → ∀ hh : ax_H, rf (fun k => 6 ≤ k ∧ k ≤ 9) h hh → ax_i hh 35 6 = nI 1 → ax_i hh 35 7 = nI (tks T n a) → ax_i hh 35 8 = nI k → rn isL T n k = tkb T n a → tkk T n a = 1 → A (99, [some (.ref 35)], [], hh, 0, 0) := by
    intro m
    induction m with
    | zero =>
      intro k hk _ hh r f6 f7 f8 er ek
      obtain ⟨t1, t2, t3, t4⟩ := rf_tp r t
      have f11 : ax_i hh 35 11 = nI n := by rw [r.2 11 (by omega)]; exact e11
      rw [rn_no (by omega)] at er
      refine vX5_step_99 hA ⟨t1, t1, fun _ => hq hh r (by rw [ek]; exact f6) f7 (by rw [← er]; exact f8) (fun z => by omega), fun q => ?_⟩
      rw [f11, f8] at q; exact absurd (nI_le (by omega) (by omega)) q
    | succ m ih =>
      intro k hk hk2 hh r f6 f7 f8 er ek
      obtain ⟨t1, t2, t3, t4⟩ := rf_tp r t
      have f11 : ax_i hh 35 11 = nI n := by rw [r.2 11 (by omega)]; exact e11
      have i8 : vp_in (ax_i hh 35 8) (ax_s hh 2).2 := by rw [f8, t3]; exact vp_in_nI (by omega) (by decide)
      have ev : ax_i hh 2 (ax_i hh 35 8).toNatClampNeg = T k := by rw [f8, nI_clamp (by omega)]; exact t4 _ (by omega)
      refine vX5_step_99 hA ⟨t1, t1, fun q => ?_, fun _ => ⟨t1, 2, t2, t1, sh_k t3, i8, ?_⟩⟩
      · rw [f11, f8] at q; exact absurd q (nI_ge (by omega) (by omega))
      rw [ev]
      refine c_isL ⟨_, rfl, fun q => ?_, fun q => ⟨rfl, t1, t1, ?_⟩⟩
      · rw [rn_no (fun z => by rw [b2i_0.mp q] at z; exact absurd z.2 (by decide))] at er
        exact hq hh r (by rw [ek]; exact f6) f7 (by rw [← er]; exact f8) (fun z => by omega)
      · refine ih (k + 1) (by omega) (by omega) _ (rf_tr r (rf_pi ⟨by decide, by decide⟩)) ?_ ?_ ?_ ?_ ek
        · rw [ai_ne (by omega)]; exact f6
        · rw [ai_ne (by omega)]; exact f7
        · rw [ai_eq, f8, ← nI_succ]
        · rw [← er, rn_go (by omega) (b2i_n0.mp q)]
  -- blanks
  have key : ∀ m k : Nat, k + m = n → ∀ hh : ax_H, rf (fun k => 6 ≤ k ∧ k ≤ 9) h hh → ax_i hh 35 8 = nI k → rn isB T n k = tks T n a → A (0, [some (.ref 35)], [], hh, 0, 0) := by
    intro m
    induction m with
    | zero =>
      intro k hk hh r f8 er
      obtain ⟨t1, t2, t3, t4⟩ := rf_tp r t
      have f11 : ax_i hh 35 11 = nI n := by rw [r.2 11 (by omega)]; exact e11
      rw [rn_no (by omega)] at er
      have e0 : tkk T n a = 0 := by unfold tkk; rw [if_neg (by omega)]
      have eb : tkb T n a = k := by unfold tkb; rw [if_neg (by omega), ← er]
      refine vX5_step_0 hA ⟨t1, t1, fun _ => ⟨t1, t1, t1, t1, fun q => ?_, fun _ => ⟨t1, ?_⟩⟩, fun q => ?_⟩
      · rw [ai_ne (by omega), ai_ne (by omega), f11, f8] at q; exact absurd q (nI_nlt (by omega) (by omega))
      · refine hq _ (rf_tr r (rf_tr (rf_pi ⟨by decide, by decide⟩) (rf_pi ⟨by decide, by decide⟩))) ?_ ?_ ?_ (fun z => by omega)
        · rw [ai_eq, e0]; rfl
        · rw [ai_ne (by omega), ai_eq, f8, er]
        · rw [ai_ne (by omega), ai_ne (by omega), f8, eb]
      · rw [f11, f8] at q; exact absurd (nI_le (by omega) (by omega)) q
    | succ m ih =>
      intro k hk hh r f8 er
      obtain ⟨t1, t2, t3, t4⟩ := rf_tp r t
      have f11 : ax_i hh 35 11 = nI n := by rw [r.2 11 (by omega)]; exact e11
      have i8 : vp_in (ax_i hh 35 8) (ax_s hh 2).2 := by rw [f8, t3]; exact vp_in_nI (by omega) (by decide)
      have ev : ax_i hh 2 (ax_i hh 35 8).toNatClampNeg = T k := by rw [f8, nI_clamp (by omega)]; exact t4 _ (by omega)
      have again : isB (T k) = true → A (0, [some (.ref 35)], [], ax_pi hh 35 8 (ax_i hh 35 8 + 1), 0, 0) := fun b => ih (k + 1) (by omega) _ (rf_tr r (rf_pi ⟨by decide, by decide⟩)) (by rw [ai_eq, f8, ← nI_succ]) (by rw [← er, rn_go (by omega) b])
      refine vX5_step_0 hA ⟨t1, t1, fun q => ?_, fun _ => ⟨t1, 2, t2, t1, sh_k t3, i8, ?_⟩⟩
      · rw [f11, f8] at q; exact absurd q (nI_ge (by omega) (by omega))
      rw [ev]
      refine ⟨fun q => ⟨rfl, t1, t1, again (decide_eq_true (Or.inl q))⟩, fun q => ⟨t1, 2, t2, t1, sh_k t3, i8, ?_⟩⟩
      rw [ev]
      refine ⟨fun q2 => ⟨t1, t1, t1, t1, ?_⟩, fun q2 => ⟨rfl, t1, t1, again (decide_eq_true (Or.inr q2))⟩⟩
      have nb : ¬ (k < n ∧ isB (T k) = true) := fun z => (of_decide_eq_true z.2).elim q q2
      rw [rn_no nb] at er
      have hs : tks T n a < n := by omega
      have r22 : rf (fun k => 6 ≤ k ∧ k ≤ 9) h (ax_pi hh 35 7 (ax_i hh 35 8)) := rf_tr r (rf_pi ⟨by decide, by decide⟩)
      have g7 : ax_i (ax_pi hh 35 7 (ax_i hh 35 8)) 35 7 = nI k := by rw [ai_eq]; exact f8
      have g8 : ax_i (ax_pi hh 35 7 (ax_i hh 35 8)) 35 8 = nI k := by rw [ai_ne (by omega)]; exact f8
      have g11 : ax_i (ax_pi hh 35 7 (ax_i hh 35 8)) 35 11 = nI n := by rw [ai_ne (by omega)]; exact f11
      revert r22 g7 g8 g11
      generalize ax_pi hh 35 7 (ax_i hh 35 8) = h2
      intro r22 g7 g8 g11
      obtain ⟨v1, v2, v3, v4⟩ := rf_tp r22 t
      have i8' : vp_in (ax_i h2 35 8) (ax_s h2 2).2 := by rw [g8, v3]; exact vp_in_nI (by omega) (by decide)
      have ev' : ax_i h2 2 (ax_i h2 35 8).toNatClampNeg = T k := by rw [g8, nI_clamp (by omega)]; exact v4 _ (by omega)
      refine ⟨fun _ => ⟨v1, 2, v2, v1, sh_k v3, i8', ?_⟩, fun z => ?_⟩
      · rw [ev']
        refine c_isL ⟨_, rfl, fun q3 => ⟨v1, 2, v2, v1, sh_k v3, i8', ?_⟩, fun q3 => ⟨v1, ?_⟩⟩
        · rw [ev']
          have nl := b2i_0.mp q3
          refine c_isD ⟨_, rfl, fun q4 => ⟨v1, 2, v2, v1, sh_k v3, i8', ?_⟩, fun q4 => ⟨v1, ?_⟩⟩
          · have nd := b2i_0.mp q4
            rw [ev']
            have eb : tkb T n a = k + 1 := by unfold tkb; rw [if_pos hs, ← er, nl, nd]; rfl
            refine ⟨fun q5 => ⟨v1, rfl, v1, v1, ?_⟩, fun q5 => ⟨v1, rfl, v1, v1, ?_⟩⟩
            · have ek : tkk T n a = 4 := by unfold tkk; rw [if_pos hs, ← er, nl, nd, if_neg q5]; rfl
              refine hq _ (rf_tr r22 (rf_tr (rf_pi ⟨by decide, by decide⟩) (rf_pi ⟨by decide, by decide⟩))) ?_ ?_ ?_ (fun z => by omega)
              · rw [ai_ne (by omega), ai_eq, ek]; rfl
              · rw [ai_ne (by omega), ai_ne (by omega), g7, er]
              · rw [ai_eq, ai_ne (by omega), g8, eb, ← nI_succ]
            · have ek : tkk T n a = 3 := by unfold tkk; rw [if_pos hs, ← er, nl, nd, if_pos q5]; rfl
              refine hq _ (rf_tr r22 (rf_tr (rf_pi ⟨by decide, by decide⟩) (rf_pi ⟨by decide, by decide⟩))) ?_ ?_ ?_ (fun z => by omega)
              · rw [ai_ne (by omega), ai_eq, ek]; rfl
              · rw [ai_ne (by omega), ai_ne (by omega), g7, er]
              · rw [ai_eq, ai_ne (by omega), g8, eb, ← nI_succ]
          · have yd := b2i_n0.mp q4
            have eb : tkb T n a = rn isD T n k := by unfold tkb; rw [if_pos hs, ← er, nl, yd]; rfl
            have ek : tkk T n a = (if rn isD T n k - k ≤ 3 then 2 else 4) := by unfold tkk; rw [if_pos hs, ← er, nl, yd]; rfl
            refine c_stepNumber (rf_tp r22 t) hn (by omega) g11 g8 g7 (fun h3 r3 f6 f8 f9 => ⟨rfl, hq h3 (rf_tr r22 (rf_mono r3 (fun x hx => by omega))) ?_ ?_ ?_ (fun z => ?_)⟩)
            · rw [ek]; exact f6
            · rw [r3.2 7 (by omega), g7, er]
            · rw [eb]; exact f8
            · unfold tkn; rw [eb, ← er]; exact f9
        · have yl := b2i_n0.mp q3
          have eb : tkb T n a = rn isL T n k := by unfold tkb; rw [if_pos hs, ← er, if_pos yl]
          have ek : tkk T n a = 1 := by unfold tkk; rw [if_pos hs, ← er, if_pos yl]
          refine lets (n - k) k (by omega) (by omega) _ (rf_tr r22 (rf_pi ⟨by decide, by decide⟩)) ?_ ?_ ?_ eb.symm ek
          · rw [ai_eq]; rfl
          · rw [ai_ne (by omega), g7, er]
          · rw [ai_ne (by omega)]; exact g8
      · rw [g11, g8] at z; exact absurd (nI_lt (by omega) (by omega)) z
  exact key (n - a) a (by omega) h rf_rf e8 rfl
end
end

section
section
/-! String.checkIndex, where the index is in -/
def ao_gfm : ax_O := fun _ σ K => match σ with
  | (pc, L, st, h, u1, u2) => K (pc + 3, L, .null :: st, h, u1, u2) ∧ K (pc + 3, L, .ref 1000301 :: st, h, u1, u2)
section
variable {g : ax_G} {cc : ByteArray} {nL : Nat} {ret : Option FieldType} {own nm : String} {d mc ms pc : Nat}
theorem ak_gfm {index : Nat} (hl : Cond.fieldLink own index "jdk/internal/util/Preconditions" "SIOOBE_FORMATTER" "Ljava/util/function/BiFunction;" ∈ lw_gd) (hd : decode cc pc = .ok (.getstatic index, 3)) : ax_ok g cc nL ret own nm d mc ms pc ao_gfm := by
  intro p e s m args below meth c V Ret L st h u1 u2 K ho hK H locs ls hP hS hlr
  dsimp only [ao_gfm] at ho
  rcases V.2.2.2.2.2.2.2.2.2.2.2.2.2.2.2.2.2.2.2 with z | z
  · exact va_gets V.1 V.2.1 z hS V.2.2.2.2.2.1 (V.2.2.2.2.2.2.2.1 _ hl) (fun _ h => h) hd (hK _ ho.1 H locs ls hP hS hlr)
  · exact va_gets V.1 V.2.1 z hS V.2.2.2.2.2.1 (V.2.2.2.2.2.2.2.1 _ hl) (fun _ h => h) hd (hK _ ho.2 H locs ls hP hS hlr)
end
theorem wc_1 : Cond.fieldLink RJ0 1053 "jdk/internal/util/Preconditions" "SIOOBE_FORMATTER" "Ljava/util/function/BiFunction;" ∈ lw_gd := List.mem_filter.mpr ⟨by decide +kernel, rfl⟩
theorem wc_2 : Cond.methodLink RJ0 1059 yJ3_checkIndex_8e157 ∈ lw_gd := List.mem_filter.mpr ⟨by decide +kernel, rfl⟩
theorem wc_3 : Cond.static yJ3_checkIndex_8e157 ∈ lw_gd := List.mem_filter.mpr ⟨by decide +kernel, rfl⟩
theorem wc_4 : Cond.initialized yJ3_checkIndex_8e157.cls ∈ lw_gd := List.mem_filter.mpr ⟨by decide +kernel, rfl⟩
theorem wc_5 : Cond.code yJ3_checkIndex_8e157 cJ3_checkIndex_8e157 3 (some .int) ∈ lw_gd := List.mem_filter.mpr ⟨by decide +kernel, rfl⟩
theorem dJ3_ci_0 : decode cJ3_checkIndex_8e157 0 = .ok (.iload_n 0, 1) := by decide +kernel
theorem dJ3_ci_1 : decode cJ3_checkIndex_8e157 1 = .ok (.ifCond .lt 8, 3) := by decide +kernel
theorem dJ3_ci_4 : decode cJ3_checkIndex_8e157 4 = .ok (.iload_n 0, 1) := by decide +kernel
theorem dJ3_ci_5 : decode cJ3_checkIndex_8e157 5 = .ok (.iload_n 1, 1) := by decide +kernel
theorem dJ3_ci_6 : decode cJ3_checkIndex_8e157 6 = .ok (.if_icmp .lt 10, 3) := by decide +kernel
theorem dJ3_ci_16 : decode cJ3_checkIndex_8e157 16 = .ok (.iload_n 0, 1) := by decide +kernel
theorem dJ3_ci_17 : decode cJ3_checkIndex_8e157 17 = .ok (.ireturn, 1) := by decide +kernel
def tJ3_ci : Nat → ax_O := ax_nd 4 (ax_nd 0 (ax_lf 0 (ao_il 0 1)) (ax_nd 1 (ax_lf 1 (ao_if_lt 9)) (ax_lf 4 (ao_il 0 1)))) (ax_nd 6 (ax_nd 5 (ax_lf 5 (ao_il 1 1)) (ax_lf 6 (ao_icmp_lt 16))) (ax_nd 16 (ax_lf 16 (ao_il 0 1)) (ax_lf 17 (ao_iret 0 0))))
theorem oJ3_ci (g : ax_G) : ∀ pc, ax_ok g cJ3_checkIndex_8e157 3 (some .int) RJ3 "checkIndex" 1 0 0 pc (tJ3_ci pc) := ax_nd_ok (ax_nd_ok (ax_lf_ok (ak_iload_n rfl dJ3_ci_0)) (ax_nd_ok (ax_lf_ok (ak_if_lt (by decide) dJ3_ci_1)) (ax_lf_ok (ak_iload_n rfl dJ3_ci_4)))) (ax_nd_ok (ax_nd_ok (ax_lf_ok (ak_iload_n rfl dJ3_ci_5)) (ax_lf_ok (ak_icmp_lt (by decide) dJ3_ci_6))) (ax_nd_ok (ax_lf_ok (ak_iload_n rfl dJ3_ci_16)) (ax_lf_ok (ak_iret rfl dJ3_ci_17))))
set_option maxHeartbeats 4000000 in
set_option maxRecDepth 100000 in
theorem eJ3_ci {g : ax_G} {Ret : Option Value → ax_H → Prop} {x0 x1 : Int32} {a2 : Nat} {h : ax_H} (v : (x0 < 0 → False) ∧ (¬ (x0 < 0) → ((x0 < x1 → (0 ≤ 0 ∧ 0 ≤ 0) ∧ Ret (some (.int x0)) h) ∧ (¬ (x0 < x1) → False)))) : ax_M g 1 0 0 yJ3_checkIndex_8e157 cJ3_checkIndex_8e157 3 (some .int) [.int x0, .int x1, .ref a2] h Ret := ax_meth (tbl := tJ3_ci) (by decide +kernel) (Nat.le_of_ble_eq_true rfl) (oJ3_ci g) (fun A hA => ax_go1 hA (fun p => false) 900 _ ⟨fun q => (v.1 q).elim, fun q => ⟨fun q2 => ((v.2 q).1 q2).2, fun q2 => ((v.2 q).2 q2).elim⟩⟩)
set_option maxHeartbeats 4000000 in
set_option maxRecDepth 100000 in
theorem eJ3_cn {g : ax_G} {Ret : Option Value → ax_H → Prop} {x0 x1 : Int32} {h : ax_H} (v : (x0 < 0 → False) ∧ (¬ (x0 < 0) → ((x0 < x1 → (0 ≤ 0 ∧ 0 ≤ 0) ∧ Ret (some (.int x0)) h) ∧ (¬ (x0 < x1) → False)))) : ax_M g 1 0 0 yJ3_checkIndex_8e157 cJ3_checkIndex_8e157 3 (some .int) [.int x0, .int x1, .null] h Ret := ax_meth (tbl := tJ3_ci) (by decide +kernel) (Nat.le_of_ble_eq_true rfl) (oJ3_ci g) (fun A hA => ax_go1 hA (fun p => false) 900 _ ⟨fun q => (v.1 q).elim, fun q => ⟨fun q2 => ((v.2 q).1 q2).2, fun q2 => ((v.2 q).2 q2).elim⟩⟩)
theorem dJ0_ci_0 : decode cJ0_checkIndex_df160 0 = .ok (.iload_n 0, 1) := by decide +kernel
theorem dJ0_ci_1 : decode cJ0_checkIndex_df160 1 = .ok (.iload_n 1, 1) := by decide +kernel
theorem dJ0_ci_2 : decode cJ0_checkIndex_df160 2 = .ok (.getstatic 1053, 3) := by decide +kernel
theorem dJ0_ci_5 : decode cJ0_checkIndex_df160 5 = .ok (.invokestatic 1059, 3) := by decide +kernel
theorem dJ0_ci_8 : decode cJ0_checkIndex_df160 8 = .ok (.pop, 1) := by decide +kernel
theorem dJ0_ci_9 : decode cJ0_checkIndex_df160 9 = .ok (.return_, 1) := by decide +kernel
def tJ0_ci (g : ax_G) : Nat → ax_O := ax_nd 2 (ax_nd 0 (ax_lf 0 (ao_il 0 1)) (ax_nd 1 (ax_lf 1 (ao_il 1 1)) (ax_lf 2 ao_gfm))) (ax_nd 5 (ax_lf 5 (ao_inv g 1 99 1 yJ3_checkIndex_8e157 cJ3_checkIndex_8e157 3 (some .int) 3 0 0 0 0)) (ax_nd 8 (ax_lf 8 ao_pop) (ax_lf 9 (ao_vret 0 0))))
theorem oJ0_ci (g : ax_G) : ∀ pc, ax_ok g cJ0_checkIndex_df160 2 none RJ0 "checkIndex" 2 0 0 pc (tJ0_ci g pc) := ax_nd_ok (ax_nd_ok (ax_lf_ok (ak_iload_n rfl dJ0_ci_0)) (ax_nd_ok (ax_lf_ok (ak_iload_n rfl dJ0_ci_1)) (ax_lf_ok (ak_gfm wc_1 dJ0_ci_2)))) (ax_nd_ok (ax_lf_ok (ak_invS (by decide) (by decide) wc_2 wc_3 wc_4 wc_5 ⟨by decide, by decide, by decide +kernel⟩ dJ0_ci_5)) (ax_nd_ok (ax_lf_ok (ak_pop dJ0_ci_8)) (ax_lf_ok (ak_vret rfl dJ0_ci_9))))
set_option maxHeartbeats 4000000 in
set_option maxRecDepth 100000 in
theorem eJ0_ci {g : ax_G} {Ret : Option Value → ax_H → Prop} {x0 x1 : Int32} {h : ax_H} (v : (x0 < 0 → False) ∧ (¬ (x0 < 0) → ((x0 < x1 → Ret none h) ∧ (¬ (x0 < x1) → False)))) : ax_M g 2 0 0 yJ0_checkIndex_df160 cJ0_checkIndex_df160 2 none [.int x0, .int x1] h Ret := ax_meth (tbl := tJ0_ci g) (by decide +kernel) (Nat.le_of_ble_eq_true rfl) (oJ0_ci g) (fun A hA => ax_go1 hA (fun p => false) 900 _ ⟨eJ3_cn ⟨fun q => (v.1 q).elim, fun q => ⟨fun q2 => ⟨⟨Nat.le_refl _, Nat.le_refl _⟩, _, rfl, rfl, (v.2 q).1 q2⟩, fun q2 => ((v.2 q).2 q2).elim⟩⟩, eJ3_ci ⟨fun q => (v.1 q).elim, fun q => ⟨fun q2 => ⟨⟨Nat.le_refl _, Nat.le_refl _⟩, _, rfl, rfl, (v.2 q).1 q2⟩, fun q2 => ((v.2 q).2 q2).elim⟩⟩⟩)
end
end

section
section
variable {g : ax_G} {Ret : Option Value → ax_H → Prop} {h : ax_H} {T : Nat → Int32} {n a : Nat}
theorem sl_sh : ∀ i, i < 14 → (Int32.ofNat (ax_sl.getD i 0)) >>> ((0 : Int32) &&& 31) = Int32.ofNat (ax_sl.getD i 0) := by decide
theorem sb_ch : ∀ i, i < 14 → ∀ j, j < ax_sl.getD i 0 → ((((ax_sb.getD i []).getD j 0) &&& (255 : Int32)).toUInt32 % 65536).toInt32 = (ax_sb.getD i []).getD j 0 ∧ narrow .char (.int ((ax_sb.getD i []).getD j 0)) = .int ((ax_sb.getD i []).getD j 0) := by decide
theorem sl_bd : ∀ i, i < 14 → 3 ≤ ax_sl.getD i 0 ∧ ax_sl.getD i 0 ≤ 6 := by decide
theorem c_slen {i : Nat} (hi : i < 14) (hq : Ret (some (.int (nI (ax_sl.getD i 0)))) h) : mJ0_length_8abf5 g [.ref (1000100 + i)] h Ret := by
  refine eJ0_length_8abf5 ⟨⟨by omega, by omega⟩, ⟨by omega, by omega⟩, ⟨i, [], hi, rfl⟩, ⟨Nat.le_of_ble_eq_true rfl, rfl, rfl⟩, eJ0_coder_7d493 ⟨fun q => absurd q (by decide), fun _ => ⟨⟨by omega, by omega⟩, ⟨Nat.le_refl _, Nat.le_refl _⟩, by decide, _, rfl, ?_⟩⟩⟩
  rw [show 1000100 + i + 100 - 1000200 = i by omega, sl_sh i hi]
  exact hq
theorem c_charAt {i j : Nat} (hi : i < 14) (hj : j < ax_sl.getD i 0) (hq : Ret (some (.int ((ax_sb.getD i []).getD j 0))) h) : mJ0_charAt_5068e g [.ref (1000100 + i), .int (nI j)] h Ret := by
  have hl := sl_bd i hi
  obtain ⟨e1, e2⟩ := sb_ch i hi j hj
  refine eJ0_charAt_5068e ⟨⟨i, [], hi, rfl⟩, ⟨Nat.le_of_ble_eq_true rfl, rfl, rfl⟩, eJ0_isLatin1_aae02 ⟨fun q => absurd q (by decide), fun _ => ⟨⟨by omega, by omega⟩, fun q => absurd rfl q, fun _ => ⟨Or.inr rfl, _, rfl, fun q => absurd q (by decide), fun _ => ⟨⟨by omega, by omega⟩, ?_⟩⟩⟩⟩⟩
  refine eJ1_charAt_3b067 ⟨⟨by omega, by omega⟩, eJ0_ci ⟨fun q => nI_pos (by omega) q, fun _ => ⟨fun _ => ⟨rfl, ⟨by omega, by omega⟩, ?_, ⟨Nat.le_refl _, Nat.le_refl _⟩, ?_⟩, fun q => q ?_⟩⟩⟩
  · rw [show 1000100 + i + 100 - 1000200 = i by omega]; exact vp_in_nI hj (by omega)
  · rw [show 1000100 + i + 100 - 1000200 = i by omega, nI_clamp (by omega), e1]
    exact ⟨e2, _, rfl, ⟨Nat.le_refl _, Nat.le_refl _⟩, e2, hq⟩
  · rw [show 1000100 + i + 100 - 1000200 = i by omega]; exact nI_lt hj (by omega)
/-- the token at place a is the word i -/
def tw (T : Nat → Int32) (n a i : Nat) : Bool := decide (tkk T n a = 1 ∧ tkb T n a - tks T n a = ax_sl.getD i 0 ∧ ∀ j, j < ax_sl.getD i 0 → T (tks T n a + j) = (ax_sb.getD i []).getD j 0)
theorem c_isWord {i : Nat} (t : tp_at h T) (hn : n ≤ 600) (ha : a ≤ n) (hi : i < 14) (e6 : ax_i h 35 6 = nI (tkk T n a)) (e7 : ax_i h 35 7 = nI (tks T n a)) (e8 : ax_i h 35 8 = nI (tkb T n a)) (hq : Ret (some (.int (b2i (tw T n a i)))) h) : mX5_isWord g [.ref 35, .ref (1000100 + i)] h Ret := by
  obtain ⟨t1, t2, t3, t4⟩ := id t
  obtain ⟨b1, b2, b3, b4⟩ := tk_bd (T := T) ha
  have hl := sl_bd i hi
  have ed : nI (tkb T n a) - nI (tks T n a) = nI (tkb T n a - tks T n a) := by
    rw [show nI (tkb T n a) = nI ((tkb T n a - tks T n a) + tks T n a) by rw [Nat.sub_add_cancel b2], ← nI_add]; exact Int32.add_sub_cancel _ _
  have kb : tkk T n a < 2 ^ 31 := by unfold tkk; repeat' split
                                     all_goals decide
  refine uX5_isWord (fun A hA => vX5_isWord_0 hA ⟨t1, fun q => ⟨Or.inl rfl, ?_⟩, fun q => ⟨t1, t1, ⟨i, [], hi, rfl⟩, ⟨Nat.le_of_ble_eq_true rfl, rfl, rfl⟩, c_slen hi ⟨_, rfl, fun q2 => ?_, fun q2 => ⟨Or.inl rfl, ?_⟩⟩⟩⟩)
  · unfold tw at hq
    rw [decide_eq_false (fun z => q (by rw [e6, z.1]; rfl))] at hq; exact hq
  · have k1 : tkk T n a = 1 := (nI_eq (b := 1) kb (by decide)).mp (by rw [← e6]; exact q)
    rw [e8, e7, ed] at q2
    have k2 := (nI_eq (by omega) (by omega)).mp q2
    have key : ∀ m j : Nat, j + m = ax_sl.getD i 0 → (∀ l, l < j → T (tks T n a + l) = (ax_sb.getD i []).getD l 0) → A (28, [some (.ref 35), some (.ref (1000100 + i)), some (.int (nI j))], [], h, 0, 0) := by
      intro m
      induction m with
      | zero =>
        intro j hj ok
        refine vX5_isWord_28 hA ⟨⟨i, [], hi, rfl⟩, ⟨Nat.le_of_ble_eq_true rfl, rfl, rfl⟩, c_slen hi ⟨_, rfl, fun _ => ⟨Or.inr rfl, ?_⟩, fun q => ?_⟩⟩
        · unfold tw at hq
          rw [decide_eq_true ⟨k1, k2, fun l hl => ok l (by omega)⟩] at hq; exact hq
        · exact absurd (nI_le (by omega) (by omega)) q
      | succ m ih =>
        intro j hj ok
        refine vX5_isWord_28 hA ⟨⟨i, [], hi, rfl⟩, ⟨Nat.le_of_ble_eq_true rfl, rfl, rfl⟩, c_slen hi ⟨_, rfl, fun q => ?_, fun _ => ⟨t1, 2, t2, t1, sh_k t3, ?_, ⟨i, [.int (nI j)], hi, rfl⟩, ⟨Nat.le_of_ble_eq_true rfl, rfl, rfl⟩, c_charAt hi (by omega) ⟨_, rfl, fun q => ?_, fun q => ⟨Or.inl rfl, ?_⟩⟩⟩⟩⟩
        · exact absurd q (nI_ge (by omega) (by omega))
        · rw [e7, nI_add, t3]; exact vp_in_nI (by omega) (by decide)
        · rw [e7, nI_add, nI_clamp (by omega), t4 _ (by omega)] at q
          rw [← nI_succ]
          refine ih (j + 1) (by omega) (fun l hl => ?_)
          by_cases e : l = j
          · rw [e]; exact q
          · exact ok l (by omega)
        · rw [e7, nI_add, nI_clamp (by omega), t4 _ (by omega)] at q
          unfold tw at hq
          rw [decide_eq_false (fun z => q (z.2.2 j (by omega)))] at hq; exact hq
    exact key (ax_sl.getD i 0) 0 (by omega) (fun l hl => absurd hl (Nat.not_lt_zero l))
  · rw [e8, e7, ed] at q2
    unfold tw at hq
    rw [decide_eq_false (fun z => q2 (by rw [z.2.1]))] at hq; exact hq
end
end

section
section
/-! LINES. Verbs: their sort, how many numbers, the least and the most of each -/
def lvs (v : Nat) : Nat := [0, 0, 0, 0, 0, 0, 1, 2, 3, 4, 4].getD v 9
def lnu (v : Nat) : Nat := [1, 2, 2, 1, 3, 3, 1, 3, 2, 3, 3].getD v 0
def llo (v i : Nat) : Nat := [2, 0, 0, 0, 0, 0, 0, 0, 0, 0, 0, 0, 0, 0, 0, 0, 0, 0, 0, 0, 0, 0, 0, 0, 0, 1, 0, 1, 0, 0, 1, 0, 0].getD (v * 3 + i) 0
def lhi (v i : Nat) : Nat := [12, 0, 0, 5, 99, 0, 5, 99, 0, 999, 0, 0, 5, 11, 5, 5, 11, 9, 11, 0, 0, 5, 11, 11, 11, 9, 0, 3, 5, 999, 3, 5, 999].getD (v * 3 + i) 0
/-- a draft: fault, its place, republic, last hour told, last person told, lines -/
abbrev lS : Type := Nat × Nat × rD × Int32 × Int32 × Nat × (Nat → Nat → Int32)
def l_f (st : lS) : Nat := st.1
def l_p (st : lS) : Nat := st.2.1
def l_D (st : lS) : rD := st.2.2.1
def l_h (st : lS) : Int32 := st.2.2.2.1
def l_o (st : lS) : Int32 := st.2.2.2.2.1
def l_N (st : lS) : Nat := st.2.2.2.2.2.1
def l_C (st : lS) : Nat → Nat → Int32 := st.2.2.2.2.2.2
def lbad (v : Nat) (x : Nat → Nat) (i : Nat) : Bool := decide (x i < llo v i ∨ lhi v i < x i ∨ (v = 7 ∧ i = 2 ∧ x 2 < x 1))
def ltoo (v : Nat) (st : lS) : Bool := if v = 3 then decide (6 ≤ dP (l_D st)) else if lvs v = 0 then false else decide (lm (lvs v) ≤ l_N st)
/-- a fault is noted if there is none yet -/
def nt (fp : Nat × Nat) (b : Bool) (w q : Nat) : Nat × Nat := if fp.1 = 0 ∧ b = true then (w, q) else fp
def lfp (v : Nat) (x q : Nat → Nat) (fp : Nat × Nat) : Nat → Nat × Nat
  | 0 => fp
  | i + 1 => nt (lfp v x q fp i) (lbad v x i) 2 (q i)
def up1 (f : Nat → Int32) (k : Nat) (v : Int32) : Nat → Int32 := fun i => if i = k then v else f i
def up2 (f : Nat → Nat → Int32) (p q : Nat) (v : Int32) : Nat → Nat → Int32 := fun i j => if i = p ∧ j = q then v else f i j
def mx (a b : Int32) : Int32 := if a < b then b else a
/-- the numbers of a line as they are kept -/
def lval (v : Nat) (x : Nat → Nat) (j : Nat) : Int32 := if v = 10 ∧ j = 2 then -(nI (x 2)) else nI (x j)
def l_add (v : Nat) (x : Nat → Nat) (st : lS) : lS := (l_f st, l_p st, l_D st, l_h st, l_o st, l_N st + 1, fun i j => if i = l_N st then lval v x j else l_C st i j)
def D_d (D : rD) (p q : Nat) (w : Int32) : rD := (dH D, dP D, dpu D, dwo D, dmo D, up2 (dde D) p q w, dlo D)
def D_l (D : rD) (p q : Nat) (w : Int32) : rD := (dH D, dP D, dpu D, dwo D, dmo D, dde D, up2 (dlo D) p q w)
def D_k (D : rD) (k : Nat) (w m : Int32) : rD := (dH D, dP D, dpu D, up1 (dwo D) k w, up1 (dmo D) k m, dde D, dlo D)
def D_p (D : rD) (w : Int32) : rD := (dH D, dP D + 1, up1 (dpu D) (dP D) w, dwo D, dmo D, dde D, dlo D)
def D_h (D : rD) (k : Nat) : rD := (k, dP D, dpu D, dwo D, dmo D, dde D, dlo D)
def l_tell (v : Nat) (x : Nat → Nat) (md : Nat) (st : lS) : lS := match v with
  | 0 => (l_f st, l_p st, D_h (l_D st) (x 0), st.2.2.2)
  | 1 => (l_f st, l_p st, D_k (l_D st) (x 0) (nI (x 1)) (nI md), st.2.2.2)
  | 2 => (l_f st, l_p st, D_k (l_D st) (x 0) (-(nI (x 1))) (nI md), st.2.2.2)
  | 3 => (l_f st, l_p st, D_p (l_D st) (nI (x 0)), st.2.2.2)
  | 4 => (l_f st, l_p st, D_d (l_D st) (x 0) (x 1) (nI (x 2)), mx (l_h st) (nI (x 1)), mx (l_o st) (nI (x 0)), st.2.2.2.2.2)
  | 5 => (l_f st, l_p st, D_l (l_D st) (x 0) (x 1) (nI (x 2)), mx (l_h st) (nI (x 1)), mx (l_o st) (nI (x 0)), st.2.2.2.2.2)
  | v => l_add v x st
def l_fp (v : Nat) (x : Nat → Nat) (q0 : Nat) (q : Nat → Nat) (st : lS) : Nat × Nat := lfp v x q (nt (l_f st, l_p st) (ltoo v st) 3 q0) (lnu v)
/-- a line told: verb, numbers, mode, places -/
def l_line (v : Nat) (x : Nat → Nat) (md q0 : Nat) (q : Nat → Nat) (st : lS) : lS := if (l_fp v x q0 q st).1 = 0 then l_tell v x md st else ((l_fp v x q0 q st).1, (l_fp v x q0 q st).2, st.2.2)
theorem nt_0 {fp : Nat × Nat} {b : Bool} {w q : Nat} (hw : w ≠ 0) (h : (nt fp b w q).1 = 0) : fp.1 = 0 ∧ b = false ∧ nt fp b w q = fp := by
  unfold nt at h ⊢
  by_cases z : fp.1 = 0 ∧ b = true
  · rw [if_pos z] at h; exact absurd h hw
  · rw [if_neg z] at h ⊢
    refine ⟨h, ?_, rfl⟩
    cases b with
    | false => rfl
    | true => exact absurd ⟨h, rfl⟩ z
theorem lfp_0 {v : Nat} {x q : Nat → Nat} {fp : Nat × Nat} : ∀ {i : Nat}, (lfp v x q fp i).1 = 0 → fp.1 = 0 ∧ lfp v x q fp i = fp ∧ ∀ j, j < i → lbad v x j = false
  | 0, h => ⟨h, rfl, fun j hj => absurd hj (Nat.not_lt_zero j)⟩
  | i + 1, h => by
    obtain ⟨h1, h2, h3⟩ := nt_0 (by decide) h
    obtain ⟨a1, a2, a3⟩ := lfp_0 (i := i) h1
    refine ⟨a1, ?_, fun j hj => ?_⟩
    · show nt (lfp v x q fp i) (lbad v x i) 2 (q i) = fp
      rw [h3, a2]
    · by_cases e : j = i
      · rw [e]; exact h2
      · exact a3 j (by omega)
theorem l_fp_0 {v : Nat} {x : Nat → Nat} {q0 : Nat} {q : Nat → Nat} {st : lS} (h : (l_fp v x q0 q st).1 = 0) : l_f st = 0 ∧ ltoo v st = false ∧ ∀ j, j < lnu v → lbad v x j = false := by
  obtain ⟨a1, a2, a3⟩ := lfp_0 h
  obtain ⟨b1, b2, -⟩ := nt_0 (by decide) a1
  exact ⟨b1, b2, a3⟩
theorem lbad_f {v : Nat} {x : Nat → Nat} {i : Nat} (h : lbad v x i = false) : llo v i ≤ x i ∧ x i ≤ lhi v i ∧ (v = 7 → i = 2 → x 1 ≤ x 2) := by
  have := of_decide_eq_false h
  refine ⟨by omega, by omega, fun a b => by omega⟩
/-- what a draft keeps -/
def okD (D : rD) : Prop := (2 ≤ dH D ∧ dH D ≤ 12) ∧ dP D ≤ 6 ∧ (∀ k, k < 6 → -99 ≤ (dwo D k).toInt ∧ (dwo D k).toInt ≤ 99) ∧ (∀ k, k < 6 → dmo D k = 0 ∨ dmo D k = 1 ∨ dmo D k = 2) ∧ (∀ p, p < dP D → 0 ≤ (dpu D p).toInt ∧ (dpu D p).toInt ≤ 999) ∧ (∀ p q, p < 6 → q < 12 → dde D p q = -1 ∨ ∃ k : Nat, k < 6 ∧ dde D p q = nI k) ∧ (∀ p q, p < 6 → q < 12 → 0 ≤ (dlo D p q).toInt ∧ (dlo D p q).toInt ≤ 9)
theorem okD_rd {D : rD} (a : okD D) : rd_ok D := ⟨a.1, a.2.1, a.2.2.1, a.2.2.2.1, a.2.2.2.2.1, fun p q hp hq => a.2.2.2.2.2.1 p q (by have := a.2.1; omega) (by have := a.1.2; omega), fun p q hp hq => a.2.2.2.2.2.2 p q (by have := a.2.1; omega) (by have := a.1.2; omega)⟩
def okL (s : Nat) (st : lS) : Prop := okD (l_D st) ∧ (1 ≤ s → ln_ok s (l_N st) (l_C st) ∧ dH (l_D st) = 8 ∧ dP (l_D st) = 0 ∧ l_h st = -1 ∧ l_o st = -1)
theorem okD_0 : okD D0 := ⟨⟨by decide, by decide⟩, by decide, fun k _ => ⟨show (-99 : Int) ≤ (0 : Int32).toInt by decide, show (0 : Int32).toInt ≤ 99 by decide⟩, fun k _ => Or.inl rfl, fun p hp => absurd hp (Nat.not_lt_zero p), fun p q _ _ => Or.inl rfl, fun p q _ _ => ⟨show (0 : Int) ≤ (1 : Int32).toInt by decide, show (1 : Int32).toInt ≤ 9 by decide⟩⟩
theorem nI_bd {k m : Nat} (h : k ≤ m) (hm : m < 2 ^ 31) : 0 ≤ (nI k).toInt ∧ (nI k).toInt ≤ m := by rw [nI_toInt (by omega)]; omega
/-- a told line keeps it -/
theorem okL_line {s v : Nat} {x : Nat → Nat} {md q0 : Nat} {q : Nat → Nat} {st : lS} (a : okL s st) (hv : v < 11) (hs : lvs v = s) (hmd : md < 3) : okL s (l_line v x md q0 q st) := by
  unfold l_line
  by_cases z : (l_fp v x q0 q st).1 = 0
  · rw [if_pos z]
    obtain ⟨z1, z2, z3⟩ := l_fp_0 z
    obtain ⟨⟨d1, d2, d3, d4, d5, d6, d7⟩, a2⟩ := id a
    have md3 : nI md = 0 ∨ nI md = 1 ∨ nI md = 2 := by
      rcases (by omega : md = 0 ∨ md = 1 ∨ md = 2) with rfl | rfl | rfl
      · exact Or.inl rfl
      · exact Or.inr (Or.inl rfl)
      · exact Or.inr (Or.inr rfl)
    have lin : 6 ≤ v → okL s (l_add v x st) := by
      intro v6
      refine ⟨a.1, fun s1 => ⟨?_, (a2 s1).2⟩⟩
      have hn : l_N st < lm s := by
        unfold ltoo at z2
        rw [if_neg (by omega), hs, if_neg (by omega)] at z2
        have := of_decide_eq_false z2
        omega
      refine ⟨hn, fun i hi => ?_⟩
      by_cases e : i = l_N st
      · have e2 : ∀ j, (l_C (l_add v x st)) i j = lval v x j := fun j => if_pos e
        have b0 := lbad_f (z3 0 (by have : v = 6 ∨ v = 7 ∨ v = 8 ∨ v = 9 ∨ v = 10 := by omega
                                    rcases this with rfl | rfl | rfl | rfl | rfl <;> decide))
        rcases (by omega : v = 6 ∨ v = 7 ∨ v = 8 ∨ v = 9 ∨ v = 10) with rfl | rfl | rfl | rfl | rfl <;> subst hs
        · exact ⟨x 0, by have : x 0 ≤ 11 := b0.2.1; omega, (e2 0).trans rfl⟩
        · have b1 := lbad_f (z3 1 (by decide))
          have b2 := lbad_f (z3 2 (by decide))
          exact ⟨x 0, x 1, x 2, by have : x 0 ≤ 5 := b0.2.1; omega, b2.2.2 rfl rfl, by have : x 2 ≤ 11 := b2.2.1; omega, (e2 0).trans rfl, (e2 1).trans rfl, (e2 2).trans rfl⟩
        · have b1 := lbad_f (z3 1 (by decide))
          exact ⟨x 0, x 1, by have : x 0 ≤ 11 := b0.2.1; omega, b1.1, by have : x 1 ≤ 9 := b1.2.1; omega, (e2 0).trans rfl, (e2 1).trans rfl⟩
        · have b1 := lbad_f (z3 1 (by decide))
          have b2 := lbad_f (z3 2 (by decide))
          have b29 : x 2 ≤ 999 := b2.2.1
          have := nI_bd b29 (by decide)
          refine ⟨x 0, x 1, b0.1, by have : x 0 ≤ 3 := b0.2.1; omega, by have : x 1 ≤ 5 := b1.2.1; omega, (e2 0).trans rfl, (e2 1).trans rfl, ?_⟩
          rw [e2 2]
          show -999 ≤ (nI (x 2)).toInt ∧ (nI (x 2)).toInt ≤ 999
          omega
        · have b1 := lbad_f (z3 1 (by decide))
          have b2 := lbad_f (z3 2 (by decide))
          have b29 : x 2 ≤ 999 := b2.2.1
          have := nI_bd b29 (by decide)
          refine ⟨x 0, x 1, b0.1, by have : x 0 ≤ 3 := b0.2.1; omega, by have : x 1 ≤ 5 := b1.2.1; omega, (e2 0).trans rfl, (e2 1).trans rfl, ?_⟩
          rw [e2 2]
          show -999 ≤ (-(nI (x 2))).toInt ∧ (-(nI (x 2))).toInt ≤ 999
          rw [i32_neg (by omega)]
          omega
      · have hi : i < l_N st + 1 := hi
        have := (a2 s1).1.2 i (by omega)
        have e2 : l_C (l_add v x st) i = l_C st i := funext (fun j => if_neg e)
        rw [e2]; exact this
    have b0 : lnu v ≠ 0 → x 0 ≤ lhi v 0 ∧ llo v 0 ≤ x 0 := fun q => ⟨(lbad_f (z3 0 (by omega))).2.1, (lbad_f (z3 0 (by omega))).1⟩
    rcases (by omega : v = 0 ∨ v = 1 ∨ v = 2 ∨ v = 3 ∨ v = 4 ∨ v = 5 ∨ 6 ≤ v) with rfl | rfl | rfl | rfl | rfl | rfl | v6
    · subst hs
      have := b0 (by decide)
      exact ⟨⟨⟨this.2, this.1⟩, d2, d3, d4, d5, d6, d7⟩, fun q => absurd q (by decide)⟩
    · subst hs
      have h1 : x 1 ≤ 99 := (lbad_f (z3 1 (by decide))).2.1
      have hb := nI_bd h1 (by decide)
      refine ⟨⟨d1, d2, fun k hk => ?_, fun k hk => ?_, d5, d6, d7⟩, fun q => absurd q (by decide)⟩
      · show -99 ≤ (if k = x 0 then nI (x 1) else dwo (l_D st) k).toInt ∧ (if k = x 0 then nI (x 1) else dwo (l_D st) k).toInt ≤ 99
        split
        · omega
        · exact d3 k hk
      · show (if k = x 0 then nI md else dmo (l_D st) k) = 0 ∨ (if k = x 0 then nI md else dmo (l_D st) k) = 1 ∨ (if k = x 0 then nI md else dmo (l_D st) k) = 2
        split
        · exact md3
        · exact d4 k hk
    · subst hs
      have h1 : x 1 ≤ 99 := (lbad_f (z3 1 (by decide))).2.1
      have hb := nI_bd h1 (by decide)
      refine ⟨⟨d1, d2, fun k hk => ?_, fun k hk => ?_, d5, d6, d7⟩, fun q => absurd q (by decide)⟩
      · show -99 ≤ (if k = x 0 then -(nI (x 1)) else dwo (l_D st) k).toInt ∧ (if k = x 0 then -(nI (x 1)) else dwo (l_D st) k).toInt ≤ 99
        split
        · rw [i32_neg (by omega)]; omega
        · exact d3 k hk
      · show (if k = x 0 then nI md else dmo (l_D st) k) = 0 ∨ (if k = x 0 then nI md else dmo (l_D st) k) = 1 ∨ (if k = x 0 then nI md else dmo (l_D st) k) = 2
        split
        · exact md3
        · exact d4 k hk
    · subst hs
      have h0 : x 0 ≤ 999 := (b0 (by decide)).1
      have hb := nI_bd h0 (by decide)
      have hp : dP (l_D st) < 6 := by
        have := of_decide_eq_false z2
        omega
      refine ⟨⟨d1, hp, d3, d4, fun p hp' => ?_, d6, d7⟩, fun q => absurd q (by decide)⟩
      show 0 ≤ (if p = dP (l_D st) then nI (x 0) else dpu (l_D st) p).toInt ∧ (if p = dP (l_D st) then nI (x 0) else dpu (l_D st) p).toInt ≤ 999
      split
      · omega
      · have hp' : p < dP (l_D st) + 1 := hp'
        exact d5 p (by omega)
    · subst hs
      have h2 : x 2 ≤ 5 := (lbad_f (z3 2 (by decide))).2.1
      refine ⟨⟨d1, d2, d3, d4, d5, fun p q hp hq => ?_, d7⟩, fun q => absurd q (by decide)⟩
      show (if p = x 0 ∧ q = x 1 then nI (x 2) else dde (l_D st) p q) = -1 ∨ ∃ k : Nat, k < 6 ∧ (if p = x 0 ∧ q = x 1 then nI (x 2) else dde (l_D st) p q) = nI k
      split
      · exact Or.inr ⟨x 2, by omega, rfl⟩
      · exact d6 p q hp hq
    · subst hs
      have h2 : x 2 ≤ 9 := (lbad_f (z3 2 (by decide))).2.1
      have hb := nI_bd h2 (by decide)
      refine ⟨⟨d1, d2, d3, d4, d5, d6, fun p q hp hq => ?_⟩, fun q => absurd q (by decide)⟩
      show 0 ≤ (if p = x 0 ∧ q = x 1 then nI (x 2) else dlo (l_D st) p q).toInt ∧ (if p = x 0 ∧ q = x 1 then nI (x 2) else dlo (l_D st) p q).toInt ≤ 9
      split
      · omega
      · exact d7 p q hp hq
    · have e : l_tell v x md st = l_add v x st := by
        match v, v6 with
        | n + 6, _ => rfl
      rw [e]
      exact lin v6
  · rw [if_neg z]; exact a
end
end

section
section
variable {g : ax_G} {Ret : Option Value → ax_H → Prop} {h : ax_H} {T : Nat → Int32} {n a s : Nat} {st : lS}
/-! the class's reader, line by line -/
def ps (T : Nat → Int32) (n a : Nat) : Nat → Nat
  | 0 => a
  | i + 1 => tkb T n (ps T n a i)
theorem ps_le (ha : a ≤ n) : ∀ i, a ≤ ps T n a i ∧ ps T n a i ≤ n
  | 0 => ⟨Nat.le_refl _, ha⟩
  | i + 1 => by
    obtain ⟨h1, h2⟩ := ps_le ha i
    obtain ⟨b1, b2, b3, -⟩ := tk_bd (T := T) h2
    exact ⟨by show a ≤ tkb T n (ps T n a i); omega, b3⟩
def rF_at (h : ax_H) (r : Nat) (D : rD) : Prop := ax_i h r 5 = nI (dH D) ∧ ax_i h r 6 = nI (dP D) ∧ (∀ k, k < 6 → ax_i h (r + 1) k = dwo D k) ∧ (∀ k, k < 6 → ax_i h (r + 2) k = dmo D k) ∧ (∀ p, p < dP D → ax_i h (r + 3) p = dpu D p) ∧ (∀ p q, p < 6 → q < 12 → ax_i h (r + 4) (p * 12 + q) = dde D p q) ∧ ∀ p q, p < 6 → q < 12 → ax_i h (r + 5) (p * 12 + q) = dlo D p q
theorem rF_ag {P : Nat → Prop} {h' : ax_H} {r : Nat} {D : rD} (e : ag P h h') (i : ∀ j, j < 6 → P (r + j)) (x : rF_at h r D) : rF_at h' r D := by
  have e0 := (e r (i 0 (by decide))).2.1
  obtain ⟨x1, x2, x3, x4, x5, x6, x7⟩ := x
  exact ⟨by rw [e0]; exact x1, by rw [e0]; exact x2, fun k hk => by rw [(e _ (i 1 (by decide))).2.1]; exact x3 k hk, fun k hk => by rw [(e _ (i 2 (by decide))).2.1]; exact x4 k hk, fun p hp => by rw [(e _ (i 3 (by decide))).2.1]; exact x5 p hp, fun p q hp hq => by rw [(e _ (i 4 (by decide))).2.1]; exact x6 p q hp hq, fun p q hp hq => by rw [(e _ (i 5 (by decide))).2.1]; exact x7 p q hp hq⟩
def fp_at (h : ax_H) (fp : Nat × Nat) : Prop := ax_i h 35 4 = nI fp.1 ∧ ax_i h 35 5 = (if fp.1 = 0 then -1 else nI fp.2)
/-- the draft without its fault -/
def dr_at (h : ax_H) (s : Nat) (st : lS) : Prop := re_st h 35 2 ∧ ax_i h 35 12 = l_h st ∧ ax_i h 35 13 = l_o st ∧ rF_at h 36 (l_D st) ∧ (1 ≤ s → li_at h (42 + 2 * s) s (l_N st) (l_C st))
def cs_at (h : ax_H) (s : Nat) (st : lS) : Prop := dr_at h s st ∧ fp_at h (l_f st, l_p st)
/-- what stays while a line is read: all but tokens, numbers, mode (6 .. 10) and J -/
def rg (J : Nat → Prop) (h h' : ax_H) : Prop := ax_same (fun b => b = 35 ∨ b = 43) h h' ∧ ∀ k, ¬ (6 ≤ k ∧ k ≤ 10) → ¬ J k → ax_i h' 35 k = ax_i h 35 k
theorem rg_rf {J : Nat → Prop} : rg J h h := ⟨sm_rf, fun _ _ _ => rfl⟩
theorem rg_tr {J : Nat → Prop} {h1 h2 : ax_H} (x : rg J h h1) (y : rg J h1 h2) : rg J h h2 := ⟨sm_tr x.1 y.1, fun k hk hj => (y.2 k hk hj).trans (x.2 k hk hj)⟩
theorem rg_of {J J' : Nat → Prop} {h1 : ax_H} (x : rf J h h1) (i : ∀ k, J k → (6 ≤ k ∧ k ≤ 10) ∨ J' k) : rg J' h h1 := ⟨sm_mono x.1 (fun b hb => Or.inl hb), fun k hk hj => x.2 k (fun q => (i k q).elim hk hj)⟩
theorem rg_mono {J J' : Nat → Prop} {h1 : ax_H} (x : rg J h h1) (i : ∀ k, J k → J' k) : rg J' h h1 := ⟨x.1, fun k hk hj => x.2 k hk (fun q => hj (i k q))⟩
theorem rg_43 {J : Nat → Prop} {k : Nat} {v : Int32} : rg J h (ax_pi h 43 k v) := ⟨sm_pi (Or.inr rfl), fun j _ _ => ai_ne (Or.inl (by decide))⟩
theorem rg_tp {J : Nat → Prop} {h1 : ax_H} (x : rg J h h1) (t : tp_at h T) : tp_at h1 T := tp_same x.1 (by omega) t
theorem dr_rg {J : Nat → Prop} {h1 : ax_H} (x : rg J h h1) (i : ¬ J 12 ∧ ¬ J 13) (d : dr_at h s st) : dr_at h1 s st := by
  obtain ⟨d1, d2, d3, d4, d5⟩ := d
  have gg : ag (fun b => b ≠ 35 ∧ b ≠ 43) h h1 := ag_same x.1 (fun b hb => by omega)
  exact ⟨re_st_same x.1 (fun q _ _ => by omega) d1, by rw [x.2 12 (by omega) i.1]; exact d2, by rw [x.2 13 (by omega) i.2]; exact d3, rF_ag gg (fun j hj => by omega) d4, fun s1 => li_at_ag gg (by omega) (d5 s1)⟩
theorem fp_rg {J : Nat → Prop} {h1 : ax_H} {fp : Nat × Nat} (x : rg J h h1) (i : ¬ J 4 ∧ ¬ J 5) (d : fp_at h fp) : fp_at h1 fp := ⟨by rw [x.2 4 (by omega) i.1]; exact d.1, by rw [x.2 5 (by omega) i.2]; exact d.2⟩
theorem c_note {fp : Nat × Nat} {w q : Nat} (r0 : (ax_s h 35).1 = 5) (f : fp_at h fp) (hf : fp.1 < 2 ^ 31) (hw : w ≠ 0) (hq : ∀ h', rf (fun k => k = 4 ∨ k = 5) h h' → fp_at h' (nt fp true w q) → Ret none h') : mX5_note g [.ref 35, .int (nI w), .int (nI q)] h Ret := by
  unfold nt at hq
  refine eX5_note ⟨r0, fun z => ?_, fun z => ⟨r0, r0, ?_⟩⟩
  · rw [if_neg (fun y => z (by rw [f.1, y.1]; rfl))] at hq
    exact hq h rf_rf f
  · have z0 : fp.1 = 0 := (nI_eq (b := 0) hf (by decide)).mp (by rw [← f.1]; exact z)
    rw [if_pos ⟨z0, rfl⟩] at hq
    refine hq _ (rf_tr (rf_pi (Or.inl rfl)) (rf_pi (Or.inr rfl))) ⟨by rw [ai_ne (by omega), ai_eq], ?_⟩
    rw [ai_eq, if_neg hw]
/-- the verb of the token at place a -/
def vbr (T : Nat → Int32) (n s a : Nat) : Nat → Nat → Option Nat
  | 0, _ => none
  | k + 1, v => if lvs v = s ∧ tw T n a (v + 3) = true then some v else vbr T n s a k (v + 1)
def vb (T : Nat → Int32) (n s a : Nat) : Option Nat := vbr T n s a 11 0
theorem vbr_some : ∀ {k v w : Nat}, vbr T n s a k v = some w → v ≤ w ∧ w < v + k ∧ lvs w = s ∧ tw T n a (w + 3) = true
  | 0, v, w, e => by cases e
  | k + 1, v, w, e => by
    unfold vbr at e
    by_cases z : lvs v = s ∧ tw T n a (v + 3) = true
    · rw [if_pos z] at e; cases e; exact ⟨Nat.le_refl _, by omega, z⟩
    · rw [if_neg z] at e
      obtain ⟨h1, h2, h3⟩ := vbr_some e
      exact ⟨by omega, by omega, h3⟩
theorem vbr_none : ∀ {k v : Nat}, vbr T n s a k v = none → ∀ w, v ≤ w → w < v + k → lvs w = s → tw T n a (w + 3) = false
  | 0, v, e => fun w h1 h2 => by omega
  | k + 1, v, e => fun w h1 h2 hs => by
    unfold vbr at e
    by_cases z : lvs v = s ∧ tw T n a (v + 3) = true
    · rw [if_pos z] at e; cases e
    · rw [if_neg z] at e
      by_cases ev : w = v
      · subst ev
        cases ht : tw T n a (w + 3) with
        | false => rfl
        | true => exact absurd ⟨hs, ht⟩ z
      · exact vbr_none e w (by omega) (by omega) hs
theorem tab_vs : ∀ v, v < 11 → List.getD (α := Int32) [0, 0, 0, 0, 0, 0, 1, 2, 3, 4, 4] v 0 = nI (lvs v) ∧ lvs v < 5 := by decide
theorem tab_nu : ∀ v, v < 11 → List.getD (α := Int32) [1, 2, 2, 1, 3, 3, 1, 3, 2, 3, 3] v 0 = nI (lnu v) ∧ 1 ≤ lnu v ∧ lnu v ≤ 3 := by decide
theorem tab_lo : ∀ v, v < 11 → ∀ i, i < 3 → List.getD (α := Int32) [2, 0, 0, 0, 0, 0, 0, 0, 0, 0, 0, 0, 0, 0, 0, 0, 0, 0, 0, 0, 0, 0, 0, 0, 0, 1, 0, 1, 0, 0, 1, 0, 0] (v * 3 + i) 0 = nI (llo v i) ∧ llo v i < 3 := by decide
theorem tab_hi : ∀ v, v < 11 → ∀ i, i < 3 → List.getD (α := Int32) [12, 0, 0, 5, 99, 0, 5, 99, 0, 999, 0, 0, 5, 11, 5, 5, 11, 9, 11, 0, 0, 5, 11, 11, 11, 9, 0, 3, 5, 999, 3, 5, 999] (v * 3 + i) 0 = nI (lhi v i) ∧ lhi v i < 1000 := by decide
theorem c_wordOf {v : Nat} (hv : v < 11) (hq : Ret (some (.ref (1000100 + (v + 3)))) h) : mX5_wordOf g [.int (nI v)] h Ret := by
  refine eX5_wordOf ⟨fun q => ?_, fun q => ⟨fun q1 => ?_, fun q1 => ⟨fun q2 => ?_, fun q2 => ⟨fun q3 => ?_, fun q3 => ⟨fun q4 => ?_, fun q4 => ⟨fun q5 => ?_, fun q5 => ⟨fun q6 => ?_, fun q6 => ⟨fun q7 => ?_, fun q7 => ⟨fun q8 => ?_, fun q8 => ⟨fun q9 => ?_, fun q9 => ?_⟩⟩⟩⟩⟩⟩⟩⟩⟩⟩
  · rw [(nI_eq (b := 0) (by omega) (by decide)).mp q] at hq; exact hq
  · rw [(nI_eq (b := 1) (by omega) (by decide)).mp q1] at hq; exact hq
  · rw [(nI_eq (b := 2) (by omega) (by decide)).mp q2] at hq; exact hq
  · rw [(nI_eq (b := 3) (by omega) (by decide)).mp q3] at hq; exact hq
  · rw [(nI_eq (b := 4) (by omega) (by decide)).mp q4] at hq; exact hq
  · rw [(nI_eq (b := 5) (by omega) (by decide)).mp q5] at hq; exact hq
  · rw [(nI_eq (b := 6) (by omega) (by decide)).mp q6] at hq; exact hq
  · rw [(nI_eq (b := 7) (by omega) (by decide)).mp q7] at hq; exact hq
  · rw [(nI_eq (b := 8) (by omega) (by decide)).mp q8] at hq; exact hq
  · rw [(nI_eq (b := 9) (by omega) (by decide)).mp q9] at hq; exact hq
  · have e : v = 10 := by
      have f : ∀ k : Nat, k < 10 → v ≠ k := by
        intro k hk e
        subst e
        rcases (by omega : v = 0 ∨ v = 1 ∨ v = 2 ∨ v = 3 ∨ v = 4 ∨ v = 5 ∨ v = 6 ∨ v = 7 ∨ v = 8 ∨ v = 9) with rfl | rfl | rfl | rfl | rfl | rfl | rfl | rfl | rfl | rfl
        · exact q rfl
        · exact q1 rfl
        · exact q2 rfl
        · exact q3 rfl
        · exact q4 rfl
        · exact q5 rfl
        · exact q6 rfl
        · exact q7 rfl
        · exact q8 rfl
        · exact q9 rfl
      have := f 0 (by decide); have := f 1 (by decide); have := f 2 (by decide); have := f 3 (by decide); have := f 4 (by decide); have := f 5 (by decide); have := f 6 (by decide); have := f 7 (by decide); have := f 8 (by decide); have := f 9 (by decide)
      omega
    rw [e] at hq; exact hq
/-- the token read last is that at place a -/
def tk_at (h : ax_H) (T : Nat → Int32) (n a : Nat) : Prop := ax_i h 35 11 = nI n ∧ ax_i h 35 6 = nI (tkk T n a) ∧ ax_i h 35 7 = nI (tks T n a) ∧ ax_i h 35 8 = nI (tkb T n a) ∧ (tkk T n a = 2 → ax_i h 35 9 = nI (tkn T n a))
theorem c_verbOf (t : tp_at h T) (hn : n ≤ 600) (ha : a ≤ n) (hs : s < 5) (k : tk_at h T n a) (h0 : vb T n s a = none → Ret (some (.int (-1))) h) (h1 : ∀ v, vb T n s a = some v → Ret (some (.int (nI v))) h) : mX5_verbOf g [.ref 35, .int (nI s)] h Ret := by
  refine uX5_verbOf (fun A hA => vX5_verbOf_0 hA ?_)
  have key : ∀ m v : Nat, v + m = 11 → vbr T n s a m v = vb T n s a → A (2, [some (.ref 35), some (.int (nI s)), some (.int (nI v))], [], h, 0, 0) := by
    intro m
    induction m with
    | zero =>
      intro v hv e
      obtain rfl : v = 11 := by omega
      exact vX5_verbOf_2 hA ⟨fun _ => h0 e.symm, fun q => absurd (by decide) q⟩
    | succ m ih =>
      intro v hv e
      obtain ⟨ev, ev5⟩ := tab_vs v (by omega)
      refine vX5_verbOf_2 hA ⟨fun q => absurd q (nI_ge (a := v) (b := 11) (by omega) (by decide)), fun _ => ⟨rfl, vp_in_nI (N := 11) (by omega) (by decide), ?_⟩⟩
      dsimp only
      rw [nI_clamp (by omega), ev, ← nI_succ]
      unfold vbr at e
      refine ⟨fun q => ih (v + 1) (by omega) ?_, fun q => c_wordOf (by omega) (Or.inl ⟨_, rfl, t.1, c_isWord t hn ha (by omega) k.2.1 k.2.2.1 k.2.2.2.1 ⟨_, rfl, fun q2 => ih (v + 1) (by omega) ?_, fun q2 => h1 v ?_⟩⟩)⟩
      · rw [if_neg (fun z => q (by rw [z.1]))] at e; exact e
      · rw [if_neg (fun z => by rw [b2i_0.mp q2] at z; exact absurd z.2 (by decide))] at e; exact e
      · rw [if_pos ⟨(nI_eq (by omega) (by omega)).mp q, b2i_n0.mp q2⟩] at e; exact e.symm
  exact key 11 0 (by omega) rfl
theorem c_isFull {l : Nat} (h1s : 1 ≤ s) (h5s : s < 5) {N : Nat} {C : Nat → Nat → Int32} (hL : li_at h l s N C) (hq : Ret (some (.int (b2i (decide (lm s ≤ N))))) h) : mX2_isFull g [.ref l] h Ret := by
  have e0 : ax_i h l 0 = nI (lm s) := hL.1.2.2.1
  have e3 : ax_i h l 3 = nI N := hL.2.2.1
  have := lm_lw h1s h5s
  have nb := hL.2.1
  refine eX2_isFull ⟨hL.1.1, hL.1.1, fun q => ⟨Or.inl rfl, ?_⟩, fun q => ⟨Or.inr rfl, ?_⟩⟩
  · rw [e0, e3] at q
    have q := (nI_ltI (by omega) (by omega)).mp q
    rw [decide_eq_false (by omega)] at hq; exact hq
  · rw [e0, e3] at q
    rw [decide_eq_true (Nat.not_lt.mp (fun z => q (nI_lt z (by omega))))] at hq; exact hq
theorem c_tooMany {v : Nat} (d : dr_at h s st) (ok : okL s st) (hv : v < 11) (hs : lvs v = s) (hq : Ret (some (.int (b2i (ltoo v st)))) h) : mX5_isOneTooMany g [.ref 35, .int (nI v)] h Ret := by
  obtain ⟨ev, ev5⟩ := tab_vs v hv
  obtain ⟨d1, d2, d3, d4, d5⟩ := id d
  unfold ltoo at hq
  refine eX5_isOneTooMany ⟨fun q => ⟨rfl, vp_in_nI (N := 11) hv (by decide), ?_⟩, fun q => ⟨d1.1, 36, d1.2.1.2.1, d1.2.2.1.1, fun q2 => ⟨Or.inl rfl, ?_⟩, fun q2 => ⟨Or.inr rfl, ?_⟩⟩⟩
  · dsimp only
    rw [nI_clamp (by omega), ev, hs]
    rw [if_neg (fun z => q (by rw [z]; rfl)), hs] at hq
    refine ⟨d1.1, c_draftOf d1 (by omega) (fun z => Or.inr ⟨rfl, Or.inl rfl, ?_⟩) (fun z => Or.inl ⟨_, rfl, (d5 z).1.1, c_isFull z (by omega) (d5 z) ⟨_, rfl, fun q2 => ⟨Or.inl rfl, ?_⟩, fun q2 => ⟨Or.inr rfl, ?_⟩⟩⟩)⟩
    · rw [if_pos z] at hq; exact hq
    · rw [if_neg (by omega), b2i_0.mp q2] at hq; exact hq
    · rw [if_neg (by omega), b2i_n0.mp q2] at hq; exact hq
  · have e : v = 3 := (nI_eq (b := 3) (by omega) (by decide)).mp q
    rw [show ax_i h 36 6 = nI (dP (l_D st)) from d4.2.1] at q2
    have q2 := (nI_ltI (a := dP (l_D st)) (b := 6) (by have := ok.1.2.1; omega) (by decide)).mp q2
    rw [if_pos e, decide_eq_false (by omega)] at hq; exact hq
  · have e : v = 3 := (nI_eq (b := 3) (by omega) (by decide)).mp q
    rw [show ax_i h 36 6 = nI (dP (l_D st)) from d4.2.1] at q2
    rw [if_pos e, decide_eq_true (Nat.not_lt.mp (fun z => q2 (nI_lt (a := dP (l_D st)) (b := 6) z (by decide))))] at hq; exact hq
theorem c_checkNumber {v i : Nat} {x : Nat → Nat} {fp : Nat × Nat} {q : Nat} (d : dr_at h s st) (f : fp_at h fp) (hf : fp.1 < 2 ^ 31) (hv : v < 11) (hi : i < 3) (hx : ∀ j, x j ≤ 999) (e9 : ax_i h 35 9 = nI (x i)) (e7 : ax_i h 35 7 = nI q) (e1 : i = 2 → ax_i h 43 1 = nI (x 1)) (hq : ∀ h', rf (fun k => k = 4 ∨ k = 5) h h' → fp_at h' (nt fp (lbad v x i) 2 q) → Ret none h') : mX5_checkNumber g [.ref 35, .int (nI v), .int (nI i)] h Ret := by
  obtain ⟨l1, l2⟩ := tab_lo v hv i hi
  obtain ⟨u1, u2⟩ := tab_hi v hv i hi
  obtain ⟨r0, ⟨-, -, -, r3⟩, -, -, r43, -, -⟩ := d.1
  have ei : nI v * 3 + nI i = nI (v * 3 + i) := by rw [show (3 : Int32) = nI 3 from rfl, pk_mul, nI_add]
  have hxi := hx i
  have hx1 := hx 1
  have bad : lbad v x i = true → ∀ h2 : ax_H, h2 = h → mX5_note g [.ref 35, .int 2, .int (nI q)] h2 (fun v3 h2 => v3 = none ∧ Ret none h2) := by
    intro b h2 e
    subst e
    refine c_note (w := 2) r0 f hf (by decide) (fun h' r' f' => ⟨rfl, hq h' r' ?_⟩)
    rw [b]; exact f'
  have good : lbad v x i = false → Ret none h := by
    intro b
    refine hq h rf_rf ?_
    rw [b]
    unfold nt
    rw [if_neg (fun z => absurd z.2 (by decide))]
    exact f
  refine eX5_checkNumber ⟨r0, rfl, by rw [ei]; exact vp_in_nI (N := 33) (by omega) (by decide), ?_⟩
  dsimp only
  rw [ei, nI_clamp (by omega), l1, e9, e7]
  refine ⟨fun z => ⟨fun _ => ⟨r0, r0, bad (decide_eq_true (Or.inl ((nI_ltI (by omega) (by omega)).mp z))) _ rfl⟩, fun y => absurd rfl y⟩, fun z => ⟨r0, rfl, vp_in_nI (N := 33) (by omega) (by decide), ?_⟩⟩
  have z := Nat.not_lt.mp (fun y => z (nI_lt (a := x i) (b := llo v i) y (by omega)))
  rw [u1]
  refine ⟨fun y => ⟨fun _ => ⟨r0, r0, bad (decide_eq_true (Or.inr (Or.inl ((nI_ltI (by omega) (by omega)).mp y)))) _ rfl⟩, fun y => absurd rfl y⟩, fun y => ⟨fun w => absurd w (by decide), fun _ => ⟨fun w => good ?_, fun w => ⟨fun w2 => good ?_, fun w2 => ⟨r0, r0, 43, r3, sh_k r43, ?_, ?_⟩⟩⟩⟩⟩
  · have y := Nat.not_lt.mp (fun w => y (nI_lt (a := lhi v i) (b := x i) w (by omega)))
    exact decide_eq_false (fun o => o.elim (fun p => by omega) (fun p => p.elim (fun p => by omega) (fun p => w (by rw [p.1]; rfl))))
  · have y := Nat.not_lt.mp (fun w => y (nI_lt (a := lhi v i) (b := x i) w (by omega)))
    exact decide_eq_false (fun o => o.elim (fun p => by omega) (fun p => p.elim (fun p => by omega) (fun p => w2 (by rw [p.2.1]; rfl))))
  · rw [show ax_s h 43 = (11, 3) from r43]; exact vp_in_nI (n := 1) (N := 3) (by decide) (by decide)
  · have y := Nat.not_lt.mp (fun w => y (nI_lt (a := lhi v i) (b := x i) w (by omega)))
    have v7 : v = 7 := (nI_eq (b := 7) (by omega) (by decide)).mp w
    have i2 : i = 2 := (nI_eq (b := 2) (by omega) (by decide)).mp w2
    rw [e1 i2]
    refine ⟨fun o => good ?_, fun o => ⟨r0, r0, bad ?_ _ rfl⟩⟩
    · have o := (nI_leI (by omega) (by omega)).mp o
      subst i2
      exact decide_eq_false (fun o => by omega)
    · have o := Nat.not_le.mp (fun c => o (nI_le (a := x 1) (b := x i) c (by omega)))
      subst i2
      exact decide_eq_true (Or.inr (Or.inr ⟨v7, rfl, o⟩))
end
end

section
section
variable {g : ax_G} {Ret : Option Value → ax_H → Prop} {h : ax_H} {T : Nat → Int32} {n a s : Nat} {st : lS}
/-- step() from the token at place a to the next -/
theorem c_next (t : tp_at h T) (hn : n ≤ 600) (ha : a ≤ n) (k : tk_at h T n a) (hq : ∀ h', rf (fun k => 6 ≤ k ∧ k ≤ 9) h h' → tk_at h' T n (tkb T n a) → Ret none h') : mX5_step g [.ref 35] h Ret :=
  c_step5 t hn (tk_bd (T := T) ha).2.2.1 k.1 k.2.2.2.1 (fun h' r e6 e7 e8 e9 => hq h' r ⟨by rw [r.2 11 (by omega)]; exact k.1, e6, e7, e8, e9⟩)
theorem tk_rf {J : Nat → Prop} {h1 : ax_H} (x : rf J h h1) (i : ∀ k, J k → ¬ (6 ≤ k ∧ k ≤ 9) ∧ k ≠ 11) (k : tk_at h T n a) : tk_at h1 T n a := ⟨by rw [x.2 11 (fun q => (i 11 q).2 rfl)]; exact k.1, by rw [x.2 6 (fun q => (i 6 q).1 (by omega))]; exact k.2.1, by rw [x.2 7 (fun q => (i 7 q).1 (by omega))]; exact k.2.2.1, by rw [x.2 8 (fun q => (i 8 q).1 (by omega))]; exact k.2.2.2.1, fun z => by rw [x.2 9 (fun q => (i 9 q).1 (by omega))]; exact k.2.2.2.2 z⟩
theorem tk_43 {k : Nat} {v : Int32} (x : tk_at h T n a) : tk_at (ax_pi h 43 k v) T n a := by
  unfold tk_at at *
  simp only [ai_ne (h := h) (a := 43) (k := k) (b := 35) (v := v) (Or.inl (by decide))]
  exact x
/-- the mode that the token at place a names -/
def mdw (T : Nat → Int32) (n a : Nat) : Option Nat := if tw T n a 0 = true then some 0 else if tw T n a 1 = true then some 1 else if tw T n a 2 = true then some 2 else none
theorem mdw_lt {m : Nat} (e : mdw T n a = some m) : m < 3 := by
  unfold mdw at e
  split at e
  · cases e; decide
  · split at e
    · cases e; decide
    · split at e
      · cases e; decide
      · cases e
theorem c_readMode (t : tp_at h T) (hn : n ≤ 600) (ha : a ≤ n) (k : tk_at h T n a) (h0 : mdw T n (tkb T n a) = none → ∀ h', rf (fun k => 6 ≤ k ∧ k ≤ 10) h h' → tk_at h' T n (tkb T n a) → Ret (some (.int 0)) h') (h1 : ∀ m, mdw T n (tkb T n a) = some m → ∀ h', rf (fun k => 6 ≤ k ∧ k ≤ 10) h h' → tk_at h' T n (tkb T n a) → ax_i h' 35 10 = nI m → Ret (some (.int 1)) h') : mX5_readMode g [.ref 35] h Ret := by
  have hb := (tk_bd (T := T) ha).2.2.1
  unfold mdw at h0 h1
  refine eX5_readMode ⟨t.1, c_next t hn ha k (fun h1' r1 k1 => ⟨rfl, ?_⟩)⟩
  have r1' : rf (fun k => 6 ≤ k ∧ k ≤ 10) h h1' := rf_mono r1 (fun x hx => by omega)
  have t1 := rf_tp r1 t
  have put : ∀ m : Nat, (if tw T n (tkb T n a) 0 = true then some 0 else if tw T n (tkb T n a) 1 = true then some 1 else if tw T n (tkb T n a) 2 = true then some 2 else none) = some m → Ret (some (.int 1)) (ax_pi h1' 35 10 (nI m)) := fun m e => h1 m e _ (rf_tr r1' (rf_pi ⟨by decide, by decide⟩)) (tk_rf (J := fun k => k = 10) (rf_pi rfl) (fun x hx => by omega) k1) ai_eq
  refine ⟨t1.1, c_isWord (i := 0) t1 hn hb (by decide) k1.2.1 k1.2.2.1 k1.2.2.2.1 ⟨_, rfl, fun q => ⟨t1.1, c_isWord (i := 1) t1 hn hb (by decide) k1.2.1 k1.2.2.1 k1.2.2.2.1 ⟨_, rfl, fun q1 => ⟨t1.1, c_isWord (i := 2) t1 hn hb (by decide) k1.2.1 k1.2.2.1 k1.2.2.2.1 ⟨_, rfl, fun q2 => ⟨Or.inl rfl, h0 ?_ h1' r1' k1⟩, fun q2 => ⟨t1.1, Or.inr rfl, put 2 ?_⟩⟩⟩, fun q1 => ⟨t1.1, Or.inr rfl, put 1 ?_⟩⟩⟩, fun q => ⟨t1.1, Or.inr rfl, put 0 ?_⟩⟩⟩
  · rw [b2i_0.mp q, b2i_0.mp q1, b2i_0.mp q2]; rfl
  · rw [b2i_0.mp q, b2i_0.mp q1, b2i_n0.mp q2]; rfl
  · rw [b2i_0.mp q, b2i_n0.mp q1]; rfl
  · rw [b2i_n0.mp q]; rfl
theorem c_ladd {l N : Nat} {C : Nat → Nat → Int32} {w : Nat → Int32} (h1s : 1 ≤ s) (h5s : s < 5) (hL : li_at h l s N C) (hN : N < lm s) (h43 : ax_s h 43 = (11, 3)) (hl : l ≠ 43 ∧ l + 1 ≠ 43) (hw : ∀ j, j < lw s → ax_i h 43 j = w j) (hq : ∀ h', ax_same (fun b => b = l ∨ b = l + 1) h h' → li_at h' l s (N + 1) (fun i j => if i = N then w j else C i j) → Ret none h') : mX2_add g [.ref l, .ref 43] h Ret := by
  obtain ⟨⟨a1, a2, a3, a4, a5⟩, b1, b2, b3⟩ := id hL
  have lb := lm_lw h1s h5s
  have hlt : N * lw s + lw s ≤ lm s * lw s := by
    have : (N + 1) * lw s ≤ lm s * lw s := Nat.mul_le_mul_right _ hN
    rw [Nat.succ_mul] at this
    exact this
  have em : nI N * nI (lw s) = nI (N * lw s) := pk_mul N (lw s)
  refine eX2_add ⟨a1, c_isFull h1s h5s hL ⟨_, rfl, fun q => ?_, fun q => ⟨sh_k h43, a1, fun q2 => ⟨a1, _, a2, a1, a1, a1, sh_k a5, sh_k h43, ?_, Or.inl rfl, Nat.le_of_ble_eq_true rfl, rfl, a1, a1, ?_⟩, fun q2 => ?_⟩⟩⟩
  · have := of_decide_eq_true (b2i_n0.mp q); omega
  · rw [b2, a4, em, nI_clamp (by omega), nI_clamp (by omega), h43, a5]
    exact ⟨by decide, nI_pos (by omega), nI_pos (by omega), by show 0 + lw s ≤ 3; omega, hlt⟩
  · rw [b2, a4, em, nI_clamp (by omega), nI_clamp (by omega)]
    have s5 : ax_same (fun b => b = l ∨ b = l + 1) h (ax_row h (l + 1) (va_cpy (ax_i h 43) (ax_i h (l + 1)) 0 (N * lw s) (lw s))) := sm_row (Or.inr rfl)
    refine hq _ (sm_tr s5 (sm_pi (Or.inl rfl))) ⟨⟨a1, a2, ?_, ?_, a5⟩, hN, ?_, fun i j hi hj => ?_⟩
    · rw [ai_ne (by omega), ai_row, if_neg (by omega)]; exact a3
    · rw [ai_ne (by omega), ai_row, if_neg (by omega)]; exact a4
    · rw [ai_eq, ai_row, if_neg (by omega), b2, ← nI_succ]
    · rw [ai_ne (by omega), ai_row, if_pos rfl]
      unfold va_cpy
      show _ = (if i = N then w j else C i j)
      by_cases e : i = N
      · subst e
        rw [if_pos ⟨by omega, by omega⟩, if_pos rfl, show 0 + (i * lw s + j - i * lw s) = j by omega]
        exact hw j hj
      · rw [if_neg e, if_neg (fun q => ?_)]
        · exact b3 i j (by omega) hj
        · have : (i + 1) * lw s ≤ N * lw s := Nat.mul_le_mul_right _ (by omega)
          rw [Nat.succ_mul] at this
          omega
  · rw [a4, h43] at q2; exact absurd (nI_le (a := lw s) (b := 3) (by omega) (by decide)) q2
theorem lnu_lw : ∀ v, 6 ≤ v → v < 11 → lnu v = lw (lvs v) ∧ 1 ≤ lvs v ∧ lvs v < 5 := by
  intro v h1 h2
  rcases (by omega : v = 6 ∨ v = 7 ∨ v = 8 ∨ v = 9 ∨ v = 10) with rfl | rfl | rfl | rfl | rfl <;> decide
theorem c_tellLine {v : Nat} {x : Nat → Nat} (d : dr_at h s st) (h6 : 6 ≤ v) (hv : v < 11) (hs : lvs v = s) (e43 : ∀ j, j < lnu v → ax_i h 43 j = nI (x j)) (too : ltoo v st = false) (hq : ∀ h', ax_same re_F h h' → (∀ k, ax_i h' 35 k = ax_i h 35 k) → dr_at h' s (l_add v x st) → Ret none h') : mX5_tellLine g [.ref 35, .int (nI v)] h Ret := by
  obtain ⟨d1, d2, d3, d4, d5⟩ := id d
  obtain ⟨r0, ⟨-, r1, r2, r3⟩, rc, r42, r43, r8, r9⟩ := id d1
  obtain ⟨w1, w2, w3⟩ := lnu_lw v h6 hv
  obtain ⟨ev, -⟩ := tab_vs v hv
  rw [hs] at w1 w2 w3 ev
  have L := d5 w2
  have hN : l_N st < lm s := by
    unfold ltoo at too
    rw [if_neg (by omega), hs, if_neg (by omega)] at too
    have := of_decide_eq_false too
    omega
  have i2 : vp_in (2 : Int32) (ax_s h 43).2 := by rw [show ax_s h 43 = (11, 3) from r43]; exact vp_in_nI (n := 2) (N := 3) (by decide) (by decide)
  -- the line is added
  have add : ∀ h2 : ax_H, ax_same (fun b => b = 43) h h2 → (∀ j, j < lw s → ax_i h2 43 j = lval v x j) → mX5_draftOf g [.ref 35, .int (nI s)] h2 (fun v3 h3 => (∃ r4 : Nat, v3 = some (.ref r4) ∧ (ax_s h3 35).1 = 5 ∧ ∃ b5 : Nat, ax_r h3 35 3 = some b5 ∧ (ax_s h3 r4).1 = 2 ∧ mX2_add g [.ref r4, .ref b5] h3 (fun v7 h6 => v7 = none ∧ Ret none h6)) ∨ (v3 = some .null ∧ Ret none h3)) := by
    intro h2 sm ew
    have g2 : ag (fun b => b ≠ 43) h h2 := ag_same sm (fun b hb => hb)
    have d1' : re_st h2 35 2 := re_st_same sm (fun q _ _ => by omega) d1
    have L2 : li_at h2 (42 + 2 * s) s (l_N st) (l_C st) := li_at_ag g2 (by omega) L
    refine c_draftOf d1' w3 (fun z => by omega) (fun _ => Or.inl ⟨_, rfl, d1'.1, 43, d1'.2.1.2.2.2, L2.1.1, c_ladd w2 w3 L2 hN d1'.2.2.2.2.1 (by omega) ew (fun h6 sm6 L6 => ⟨rfl, ?_⟩)⟩)
    have g6 : ag (fun b => b ≠ 43 ∧ b ≠ 42 + 2 * s ∧ b ≠ 42 + 2 * s + 1) h h6 := ag_tr (ag_mono g2 (fun b hb => hb.1)) (ag_same sm6 (fun b hb => by omega))
    have e35 := (g6 35 (by omega)).2.1
    have re6 : re_st h6 35 2 := by
      obtain ⟨a1, b1, c1, c2, c3, c4, dd⟩ := d1'
      refine ⟨by rw [sm6.2.1]; exact a1, ⟨by rw [sm6.2.2.1]; exact b1.1, by rw [sm6.2.2.1]; exact b1.2.1, by rw [sm6.2.2.1]; exact b1.2.2.1, by rw [sm6.2.2.1]; exact b1.2.2.2⟩, rc_st_same sm6 c1, by rw [sm6.2.1]; exact c2, by rw [sm6.2.1]; exact c3, by rw [sm6.2.2.1]; exact c4, fun q q1 q5 => ⟨by rw [sm6.2.2.1]; exact (dd q q1 q5).1, ?_⟩⟩
      by_cases e : q = s
      · subst e; exact L6.1
      · exact li_st_same sm6 (by omega) (dd q q1 q5).2
    exact hq h6 (sm_tr (sm_mono sm (fun b hb => by unfold re_F; omega)) (sm_mono sm6 (fun b hb => by unfold re_F; omega))) e35 ⟨re6, by rw [e35]; exact d2, by rw [e35]; exact d3, rF_ag g6 (fun j hj => by omega) d4, fun _ => L6⟩
  refine eX5_tellLine ⟨fun q => ⟨rfl, vp_in_nI (N := 11) hv (by decide), ?_⟩, fun q => ⟨r0, 43, r3, r0, 43, r3, sh_k r43, i2, sh_k r43, i2, rfl, vp_in_nI (N := 11) hv (by decide), ?_⟩⟩
  · dsimp only
    rw [nI_clamp (by omega), ev]
    refine ⟨r0, add h sm_rf (fun j hj => ?_)⟩
    unfold lval
    rw [if_neg (fun z => q (by rw [z.1]; rfl))]
    exact e43 j (by omega)
  · have e : v = 10 := (nI_eq (b := 10) (by omega) (by decide)).mp q
    dsimp only
    rw [nI_clamp (by omega), ev]
    refine ⟨r0, add _ (sm_pi rfl) (fun j hj => ?_)⟩
    unfold lval
    by_cases z : j = 2
    · rw [if_pos ⟨e, z⟩, z, ai_eq, e43 2 (by omega)]
    · rw [if_neg (fun y => z y.2), ai_ne (by omega)]
      exact e43 j (by omega)
/-- tell(): a line without a fault goes to the draft -/
theorem c_tell {v md : Nat} {x : Nat → Nat} (d : dr_at h s st) (ok : okL s st) (hv : v < 11) (hs : lvs v = s) (e43 : ∀ j, j < lnu v → ax_i h 43 j = nI (x j)) (e10 : (v = 1 ∨ v = 2) → ax_i h 35 10 = nI md) (too : ltoo v st = false) (bad : ∀ j, j < lnu v → lbad v x j = false) (hq : ∀ h', ax_same re_F h h' → (∀ k, k ≠ 12 → k ≠ 13 → ax_i h' 35 k = ax_i h 35 k) → dr_at h' s (l_tell v x md st) → Ret none h') : mX5_tell g [.ref 35, .int (nI v)] h Ret := by
  obtain ⟨d1, d2, d3, d4, d5⟩ := id d
  obtain ⟨r0, ⟨-, r1, r2, r3⟩, rc, r42, r43, r8, r9⟩ := id d1
  obtain ⟨c0, ⟨c1, c2, c3, c4, c5⟩, c6, c7, c8, c9, c10⟩ := id rc
  obtain ⟨x1, x2, x3, x4, x5, x6, x7⟩ := id d4
  have F36 : ∀ k, 35 ≤ k → k ≤ 51 → re_F k := fun k h1 h2 => ⟨h1, h2⟩
  have i0 : vp_in (0 : Int32) (ax_s h 43).2 := by rw [show ax_s h 43 = (11, 3) from r43]; exact vp_in_nI (n := 0) (N := 3) (by decide) (by decide)
  have i1 : vp_in (1 : Int32) (ax_s h 43).2 := by rw [show ax_s h 43 = (11, 3) from r43]; exact vp_in_nI (n := 1) (N := 3) (by decide) (by decide)
  have i2 : vp_in (2 : Int32) (ax_s h 43).2 := by rw [show ax_s h 43 = (11, 3) from r43]; exact vp_in_nI (n := 2) (N := 3) (by decide) (by decide)
  have s43 : (ax_s h 43).1 = 11 := sh_k r43
  -- what of the draft a write into the republic leaves
  have keep : ∀ {h' : ax_H}, ax_same (fun b => 36 ≤ b ∧ b ≤ 41) h h' → re_st h' 35 2 ∧ (∀ k, ax_i h' 35 k = ax_i h 35 k) ∧ (1 ≤ s → li_at h' (42 + 2 * s) s (l_N st) (l_C st)) := fun {h'} sm => by
    have gg : ag (fun b => ¬ (36 ≤ b ∧ b ≤ 41)) h h' := ag_same sm (fun b hb => hb)
    exact ⟨re_st_same sm (fun q _ _ => by omega) d1, (gg 35 (by omega)).2.1, fun s1 => li_at_ag gg (by omega) (d5 s1)⟩
  refine uX5_tell (fun A hA => ?_)
  have one : ∀ (b : Nat) (o1 o2 : Option Value), ax_s h b = (11, 72) → (b = 40 ∨ b = 41) → x 0 ≤ 5 → x 1 ≤ 11 → lnu v = 3 → Ret none (ax_pi (ax_pi (ax_pi h b (x 0 * 12 + x 1) (nI (x 2))) 35 13 (mx (l_o st) (nI (x 0)))) 35 12 (mx (l_h st) (nI (x 1)))) → A (183, [some (.ref 35), o1, o2], [.ref b], h, 0, 0) := by
    intro b o1 o2 sb hb h0 h1 l3 fin
    have f0 : ax_i h 43 0 = nI (x 0) := e43 0 (by omega)
    have f1 : ax_i h 43 1 = nI (x 1) := e43 1 (by omega)
    have f2 : ax_i h 43 2 = nI (x 2) := e43 2 (by omega)
    unfold mx at fin
    refine vX5_tell_183 hA ⟨r0, 43, r3, s43, i0, r0, 43, r3, s43, i1, r0, 43, r3, s43, i2, sh_k sb, ?_, r0, r0, 43, r3, s43, i0, r0, r0, r0, 43, r3, s43, i1, r0, ?_⟩
    · rw [f0, f1, ni_12, sb]; exact vp_in_nI (by omega) (by decide)
    · rw [f0, f1, f2, ni_12, nI_clamp (by omega)]
      have p1 : ∀ k, ax_i (ax_pi h b (x 0 * 12 + x 1) (nI (x 2))) 35 k = ax_i h 35 k := fun k => ai_ne (by omega)
      have p2 : ∀ k, ax_i (ax_pi h b (x 0 * 12 + x 1) (nI (x 2))) 43 k = ax_i h 43 k := fun k => ai_ne (by omega)
      have p3 : ∀ w k, ax_i (ax_pi (ax_pi h b (x 0 * 12 + x 1) (nI (x 2))) 35 13 w) 43 k = ax_i h 43 k := fun w k => by rw [ai_ne (by omega)]; exact p2 k
      have p4 : ∀ w, ax_i (ax_pi (ax_pi h b (x 0 * 12 + x 1) (nI (x 2))) 35 13 w) 35 12 = ax_i h 35 12 := fun w => by rw [ai_ne (by omega)]; exact p1 12
      rw [p3, p4, p2, p1, f0, f1, d2, d3]
      exact fin
  rcases (by omega : v = 0 ∨ v = 1 ∨ v = 2 ∨ v = 3 ∨ v = 4 ∨ v = 5 ∨ 6 ≤ v) with rfl | rfl | rfl | rfl | rfl | rfl | v6
  · refine vX5_tell_0 hA ⟨fun _ => ⟨r0, 36, r1, r0, 43, r3, s43, i0, c0, ?_⟩, fun q => absurd rfl q⟩
    have sm : ax_same (fun b => 36 ≤ b ∧ b ≤ 41) h (ax_pi h 36 5 (ax_i h 43 0)) := sm_pi ⟨by decide, by decide⟩
    obtain ⟨k1, k2, k3⟩ := keep sm
    refine hq _ (sm_mono sm (fun b hb => by unfold re_F; omega)) (fun k _ _ => k2 k) ⟨k1, by rw [k2]; exact d2, by rw [k2]; exact d3, ⟨by rw [ai_eq]; exact e43 0 (by decide), by rw [ai_ne (by omega)]; exact x2, fun k hk => by rw [ai_ne (by omega)]; exact x3 k hk, fun k hk => by rw [ai_ne (by omega)]; exact x4 k hk, fun p hp => by rw [ai_ne (by omega)]; exact x5 p hp, fun p q hp hq => by rw [ai_ne (by omega)]; exact x6 p q hp hq, fun p q hp hq => by rw [ai_ne (by omega)]; exact x7 p q hp hq⟩, k3⟩
  · have b0 : x 0 ≤ 5 := (lbad_f (bad 0 (by decide))).2.1
    have f0 : ax_i h 43 0 = nI (x 0) := e43 0 (by decide)
    have f1 : ax_i h 43 1 = nI (x 1) := e43 1 (by decide)
    refine vX5_tell_0 hA ⟨fun q => absurd q (by decide), fun _ => ⟨fun _ => ⟨r0, 36, r1, c0, 37, c1, r0, 43, r3, s43, i0, fun q => absurd rfl q, fun _ => ⟨r0, 43, r3, s43, i1, ?_⟩⟩, fun q => absurd rfl q⟩⟩
    rw [f0, f1]
    have v0 : vp_in (nI (x 0)) 6 := vp_in_nI (by omega) (by decide)
    refine vX5_tell_90 hA ⟨sh_k c6, by rw [show ax_s h 37 = (11, 6) from c6]; exact v0, r0, 36, r1, c0, 38, c2, r0, 43, r3, s43, i0, r0, sh_k c7, ?_, ?_⟩
    · rw [nI_clamp (by omega), ai_ne (by omega), f0]
      show vp_in (nI (x 0)) (ax_s h 38).2
      rw [show ax_s h 38 = (11, 6) from c7]; exact v0
    rw [nI_clamp (by omega), ai_ne (h := h) (a := 37) (b := 43) (by omega), f0, nI_clamp (by omega), ai_ne (h := h) (a := 37) (b := 35) (by omega), e10 (Or.inl rfl)]
    have sm : ax_same (fun b => 36 ≤ b ∧ b ≤ 41) h (ax_pi (ax_pi h 37 (x 0) (nI (x 1))) 38 (x 0) (nI md)) := sm_tr (sm_pi ⟨by decide, by decide⟩) (sm_pi ⟨by decide, by decide⟩)
    obtain ⟨k1, k2, k3⟩ := keep sm
    refine hq _ (sm_mono sm (fun b hb => by unfold re_F; omega)) (fun k _ _ => k2 k) ⟨k1, by rw [k2]; exact d2, by rw [k2]; exact d3, ⟨by rw [ai_ne (by omega), ai_ne (by omega)]; exact x1, by rw [ai_ne (by omega), ai_ne (by omega)]; exact x2, fun k hk => ?_, fun k hk => ?_, fun p hp => by rw [ai_ne (by omega), ai_ne (by omega)]; exact x5 p hp, fun p q hp hq => by rw [ai_ne (by omega), ai_ne (by omega)]; exact x6 p q hp hq, fun p q hp hq => by rw [ai_ne (by omega), ai_ne (by omega)]; exact x7 p q hp hq⟩, k3⟩
    · rw [ai_ne (by omega)]
      show _ = (if k = x 0 then nI (x 1) else dwo (l_D st) k)
      by_cases e : k = x 0
      · rw [if_pos e, e, ai_eq]
      · rw [if_neg e, ai_ne (by omega)]; exact x3 k hk
    · show _ = (if k = x 0 then nI md else dmo (l_D st) k)
      by_cases e : k = x 0
      · rw [if_pos e, e, ai_eq]
      · rw [if_neg e, ai_ne (by omega), ai_ne (by omega)]; exact x4 k hk
  · have b0 : x 0 ≤ 5 := (lbad_f (bad 0 (by decide))).2.1
    have f0 : ax_i h 43 0 = nI (x 0) := e43 0 (by decide)
    have f1 : ax_i h 43 1 = nI (x 1) := e43 1 (by decide)
    refine vX5_tell_0 hA ⟨fun q => absurd q (by decide), fun _ => ⟨fun q => absurd q (by decide), fun _ => ⟨fun _ => ⟨r0, 36, r1, c0, 37, c1, r0, 43, r3, s43, i0, fun _ => ⟨r0, 43, r3, s43, i1, ?_⟩, fun q => absurd q (by decide)⟩, fun q => absurd rfl q⟩⟩⟩
    rw [f0, f1]
    have v0 : vp_in (nI (x 0)) 6 := vp_in_nI (by omega) (by decide)
    refine vX5_tell_90 hA ⟨sh_k c6, by rw [show ax_s h 37 = (11, 6) from c6]; exact v0, r0, 36, r1, c0, 38, c2, r0, 43, r3, s43, i0, r0, sh_k c7, ?_, ?_⟩
    · rw [nI_clamp (by omega), ai_ne (by omega), f0]
      show vp_in (nI (x 0)) (ax_s h 38).2
      rw [show ax_s h 38 = (11, 6) from c7]; exact v0
    rw [nI_clamp (by omega), ai_ne (h := h) (a := 37) (b := 43) (by omega), f0, nI_clamp (by omega), ai_ne (h := h) (a := 37) (b := 35) (by omega), e10 (Or.inr rfl)]
    have sm : ax_same (fun b => 36 ≤ b ∧ b ≤ 41) h (ax_pi (ax_pi h 37 (x 0) (-(nI (x 1)))) 38 (x 0) (nI md)) := sm_tr (sm_pi ⟨by decide, by decide⟩) (sm_pi ⟨by decide, by decide⟩)
    obtain ⟨k1, k2, k3⟩ := keep sm
    refine hq _ (sm_mono sm (fun b hb => by unfold re_F; omega)) (fun k _ _ => k2 k) ⟨k1, by rw [k2]; exact d2, by rw [k2]; exact d3, ⟨by rw [ai_ne (by omega), ai_ne (by omega)]; exact x1, by rw [ai_ne (by omega), ai_ne (by omega)]; exact x2, fun k hk => ?_, fun k hk => ?_, fun p hp => by rw [ai_ne (by omega), ai_ne (by omega)]; exact x5 p hp, fun p q hp hq => by rw [ai_ne (by omega), ai_ne (by omega)]; exact x6 p q hp hq, fun p q hp hq => by rw [ai_ne (by omega), ai_ne (by omega)]; exact x7 p q hp hq⟩, k3⟩
    · rw [ai_ne (by omega)]
      show _ = (if k = x 0 then -(nI (x 1)) else dwo (l_D st) k)
      by_cases e : k = x 0
      · rw [if_pos e, e, ai_eq]
      · rw [if_neg e, ai_ne (by omega)]; exact x3 k hk
    · show _ = (if k = x 0 then nI md else dmo (l_D st) k)
      by_cases e : k = x 0
      · rw [if_pos e, e, ai_eq]
      · rw [if_neg e, ai_ne (by omega), ai_ne (by omega)]; exact x4 k hk
  · have hp : dP (l_D st) < 6 := by have := of_decide_eq_false too; omega
    have f6 : ax_i h 36 6 = nI (dP (l_D st)) := x2
    refine vX5_tell_0 hA ⟨fun q => absurd q (by decide), fun _ => ⟨fun q => absurd q (by decide), fun _ => ⟨fun q => absurd q (by decide), fun _ => ⟨fun _ => ⟨r0, 36, r1, c0, fun q => ?_, fun _ => ⟨r0, 36, r1, c0, 39, c3, r0, 36, r1, c0, r0, 43, r3, s43, i0, sh_k c8, ?_, r0, 36, r1, rfl, c0, c0, ?_⟩⟩, fun q => absurd rfl q⟩⟩⟩⟩
    · rw [f6] at q; exact absurd q (nI_ge (a := dP (l_D st)) (b := 6) hp (by decide))
    · rw [f6, show ax_s h 39 = (11, 6) from c8]; exact vp_in_nI hp (by decide)
    rw [f6, nI_clamp (by omega), e43 0 (by decide), ai_ne (h := h) (a := 39) (b := 36) (by omega), f6, ← nI_succ]
    have sm : ax_same (fun b => 36 ≤ b ∧ b ≤ 41) h (ax_pi (ax_pi h 39 (dP (l_D st)) (nI (x 0))) 36 6 (nI (dP (l_D st) + 1))) := sm_tr (sm_pi ⟨by decide, by decide⟩) (sm_pi ⟨by decide, by decide⟩)
    obtain ⟨k1, k2, k3⟩ := keep sm
    refine hq _ (sm_mono sm (fun b hb => by unfold re_F; omega)) (fun k _ _ => k2 k) ⟨k1, by rw [k2]; exact d2, by rw [k2]; exact d3, ⟨by rw [ai_ne (by omega), ai_ne (by omega)]; exact x1, ai_eq, fun k hk => by rw [ai_ne (by omega), ai_ne (by omega)]; exact x3 k hk, fun k hk => by rw [ai_ne (by omega), ai_ne (by omega)]; exact x4 k hk, fun p hp' => ?_, fun p q hp hq => by rw [ai_ne (by omega), ai_ne (by omega)]; exact x6 p q hp hq, fun p q hp hq => by rw [ai_ne (by omega), ai_ne (by omega)]; exact x7 p q hp hq⟩, k3⟩
    rw [ai_ne (by omega)]
    show _ = (if p = dP (l_D st) then nI (x 0) else dpu (l_D st) p)
    by_cases e : p = dP (l_D st)
    · rw [if_pos e, e, ai_eq]
    · rw [if_neg e, ai_ne (by omega)]
      have hp' : p < dP (l_D st) + 1 := hp'
      exact x5 p (by omega)
  · have h0 : x 0 ≤ 5 := (lbad_f (bad 0 (by decide))).2.1
    have h1 : x 1 ≤ 11 := (lbad_f (bad 1 (by decide))).2.1
    have fin : A (183, [some (.ref 35), some (.int (nI 4)), none], [.ref 40], h, 0, 0) := by
      refine one 40 _ _ c9 (by omega) h0 h1 rfl ?_
      have sm : ax_same (fun b => b = 35 ∨ b = 40) h (ax_pi (ax_pi (ax_pi h 40 (x 0 * 12 + x 1) (nI (x 2))) 35 13 (mx (l_o st) (nI (x 0)))) 35 12 (mx (l_h st) (nI (x 1)))) := sm_tr (sm_tr (sm_pi (Or.inr rfl)) (sm_pi (Or.inl rfl))) (sm_pi (Or.inl rfl))
      have gg : ag (fun b => b ≠ 35 ∧ b ≠ 40) h (ax_pi (ax_pi (ax_pi h 40 (x 0 * 12 + x 1) (nI (x 2))) 35 13 (mx (l_o st) (nI (x 0)))) 35 12 (mx (l_h st) (nI (x 1)))) := ag_same sm (fun b hb => by omega)
      refine hq _ (sm_mono sm (fun b hb => by unfold re_F; omega)) (fun k k1 k2 => by rw [ai_ne (by omega), ai_ne (by omega), ai_ne (by omega)]) ⟨re_st_same sm (fun q _ _ => by omega) d1, ai_eq, by rw [ai_ne (by omega), ai_eq]; rfl, ⟨by rw [(gg 36 (by omega)).2.1]; exact x1, by rw [(gg 36 (by omega)).2.1]; exact x2, fun k hk => by rw [(gg 37 (by omega)).2.1]; exact x3 k hk, fun k hk => by rw [(gg 38 (by omega)).2.1]; exact x4 k hk, fun p hp => by rw [(gg 39 (by omega)).2.1]; exact x5 p hp, ?_, ?_⟩, fun s1 => li_at_ag gg (by omega) (d5 s1)⟩
      · intro p q hp hq
        rw [ai_ne (by omega), ai_ne (by omega)]
        show _ = (if p = x 0 ∧ q = x 1 then nI (x 2) else dde (l_D st) p q)
        by_cases e : p = x 0 ∧ q = x 1
        · rw [if_pos e, e.1, e.2, ai_eq]
        · rw [if_neg e, ai_ne (by omega)]; exact x6 p q hp hq
      · exact fun p q hp hq => by rw [(gg 41 (by omega)).2.1]; exact x7 p q hp hq
    exact vX5_tell_0 hA ⟨fun q => absurd q (by decide), fun _ => ⟨fun q => absurd q (by decide), fun _ => ⟨fun q => absurd q (by decide), fun _ => ⟨fun q => absurd q (by decide), fun _ => ⟨fun _ => ⟨fun q => absurd rfl q, fun _ => ⟨r0, 36, r1, c0, 40, c4, fin⟩⟩, fun q => absurd rfl q⟩⟩⟩⟩⟩
  · have h0 : x 0 ≤ 5 := (lbad_f (bad 0 (by decide))).2.1
    have h1 : x 1 ≤ 11 := (lbad_f (bad 1 (by decide))).2.1
    have fin : A (183, [some (.ref 35), some (.int (nI 5)), none], [.ref 41], h, 0, 0) := by
      refine one 41 _ _ c10 (by omega) h0 h1 rfl ?_
      have sm : ax_same (fun b => b = 35 ∨ b = 41) h (ax_pi (ax_pi (ax_pi h 41 (x 0 * 12 + x 1) (nI (x 2))) 35 13 (mx (l_o st) (nI (x 0)))) 35 12 (mx (l_h st) (nI (x 1)))) := sm_tr (sm_tr (sm_pi (Or.inr rfl)) (sm_pi (Or.inl rfl))) (sm_pi (Or.inl rfl))
      have gg : ag (fun b => b ≠ 35 ∧ b ≠ 41) h (ax_pi (ax_pi (ax_pi h 41 (x 0 * 12 + x 1) (nI (x 2))) 35 13 (mx (l_o st) (nI (x 0)))) 35 12 (mx (l_h st) (nI (x 1)))) := ag_same sm (fun b hb => by omega)
      refine hq _ (sm_mono sm (fun b hb => by unfold re_F; omega)) (fun k k1 k2 => by rw [ai_ne (by omega), ai_ne (by omega), ai_ne (by omega)]) ⟨re_st_same sm (fun q _ _ => by omega) d1, ai_eq, by rw [ai_ne (by omega), ai_eq]; rfl, ⟨by rw [(gg 36 (by omega)).2.1]; exact x1, by rw [(gg 36 (by omega)).2.1]; exact x2, fun k hk => by rw [(gg 37 (by omega)).2.1]; exact x3 k hk, fun k hk => by rw [(gg 38 (by omega)).2.1]; exact x4 k hk, fun p hp => by rw [(gg 39 (by omega)).2.1]; exact x5 p hp, ?_, ?_⟩, fun s1 => li_at_ag gg (by omega) (d5 s1)⟩
      · exact fun p q hp hq => by rw [(gg 40 (by omega)).2.1]; exact x6 p q hp hq
      · intro p q hp hq
        rw [ai_ne (by omega), ai_ne (by omega)]
        show _ = (if p = x 0 ∧ q = x 1 then nI (x 2) else dlo (l_D st) p q)
        by_cases e : p = x 0 ∧ q = x 1
        · rw [if_pos e, e.1, e.2, ai_eq]
        · rw [if_neg e, ai_ne (by omega)]; exact x7 p q hp hq
    exact vX5_tell_0 hA ⟨fun q => absurd q (by decide), fun _ => ⟨fun q => absurd q (by decide), fun _ => ⟨fun q => absurd q (by decide), fun _ => ⟨fun q => absurd q (by decide), fun _ => ⟨fun q => absurd q (by decide), fun _ => ⟨fun _ => ⟨fun _ => ⟨r0, 36, r1, c0, 41, c5, fin⟩, fun q => absurd q (by decide)⟩, fun q => absurd rfl q⟩⟩⟩⟩⟩⟩
  · have e : l_tell v x md st = l_add v x st := by
      match v, v6 with
      | n + 6, _ => rfl
    rw [e] at hq
    have ne : ∀ k : Nat, k < 6 → ¬ nI v = nI k := fun k hk q => by have := (nI_eq (by omega) (by omega)).mp q; omega
    exact vX5_tell_0 hA ⟨fun q => absurd q (ne 0 (by decide)), fun _ => ⟨fun q => absurd q (ne 1 (by decide)), fun _ => ⟨fun q => absurd q (ne 2 (by decide)), fun _ => ⟨fun q => absurd q (ne 3 (by decide)), fun _ => ⟨fun q => absurd q (ne 4 (by decide)), fun _ => ⟨fun q => absurd q (ne 5 (by decide)), fun _ => ⟨r0, c_tellLine d v6 hv hs e43 too (fun h' sm e35 dr => ⟨rfl, hq h' sm (fun k _ _ => e35 k) dr⟩)⟩⟩⟩⟩⟩⟩⟩
end
end

section
section
variable {g : ax_G} {Ret : Option Value → ax_H → Prop} {h : ax_H} {T : Nat → Int32} {n a s : Nat} {st : lS}
theorem tkk_lt : tkk T n a < 2 ^ 31 := by
  unfold tkk
  repeat' split
  all_goals decide
theorem rn_P {P : Int32 → Bool} {T : Nat → Int32} {n a j : Nat} (h : a ≤ n) (h1 : a ≤ j) (h2 : j < rn P T n a) : P (T j) = true := (rn_bd (n - a) a (by omega)).2.2 j h1 h2
theorem tkn_le (ha : a ≤ n) (hk : tkk T n a = 2) : tkn T n a ≤ 999 := by
  have hs : tks T n a < n := by
    rcases Nat.lt_or_ge (tks T n a) n with z | z
    · exact z
    · unfold tkk at hk; rw [if_neg (by omega)] at hk; cases hk
  unfold tkk at hk
  rw [if_pos hs] at hk
  by_cases l : isL (T (tks T n a)) = true
  · rw [if_pos l] at hk; cases hk
  rw [if_neg l] at hk
  by_cases d : isD (T (tks T n a)) = true
  · rw [if_pos d] at hk
    by_cases z : rn isD T n (tks T n a) - tks T n a ≤ 3
    · unfold tkn
      have eb : tkb T n a = rn isD T n (tks T n a) := by unfold tkb; rw [if_pos hs, if_neg l, if_pos d]
      rw [eb]
      exact dval_3 z (fun j hj => rn_P (P := isD) (T := T) (n := n) (a := tks T n a) (j := tks T n a + j) (by omega) (by omega) (by omega))
    · rw [if_neg z] at hk; cases hk
  · rw [if_neg d] at hk
    split at hk <;> cases hk
/-- the numbers of the line at place a, and their places -/
def l_x (T : Nat → Int32) (n a : Nat) : Nat → Nat := fun i => if tkk T n (ps T n a (i + 1)) = 2 then tkn T n (ps T n a (i + 1)) else 0
def l_q (T : Nat → Int32) (n a : Nat) : Nat → Nat := fun i => tks T n (ps T n a (i + 1))
theorem l_x_le (ha : a ≤ n) (j : Nat) : l_x T n a j ≤ 999 := by
  unfold l_x
  split
  · exact tkn_le (ps_le ha _).2 (by assumption)
  · exact Nat.zero_le _
/-- the first token of those behind a that is no number -/
def nf (T : Nat → Int32) (n a : Nat) : Nat → Nat → Option Nat
  | 0, _ => none
  | k + 1, i => if tkk T n (ps T n a (i + 1)) = 2 then nf T n a k (i + 1) else some (i + 1)
/-- a line: where no text goes on, or its verb and mode -/
def lsx (T : Nat → Int32) (n s a : Nat) : Nat ⊕ (Nat × Nat) := match vb T n s a with
  | none => .inl (tks T n a)
  | some v => match nf T n a (lnu v) 0 with
    | some i => .inl (tks T n (ps T n a i))
    | none => if v = 1 ∨ v = 2 then (match mdw T n (ps T n a (lnu v + 1)) with
        | none => .inl (tks T n (ps T n a (lnu v + 1)))
        | some m => if tkk T n (ps T n a (lnu v + 2)) = 3 then .inr (v, m) else .inl (tks T n (ps T n a (lnu v + 2))))
      else if tkk T n (ps T n a (lnu v + 1)) = 3 then .inr (v, 0) else .inl (tks T n (ps T n a (lnu v + 1)))
/-- which token its semicolon is -/
def l_m (v : Nat) : Nat := if v = 1 ∨ v = 2 then lnu v + 2 else lnu v + 1
theorem ntf_le {fp : Nat × Nat} {b : Bool} {w q : Nat} (h : fp.1 ≤ 4) (hw : w ≤ 4) : (nt fp b w q).1 ≤ 4 := by
  unfold nt; split
  · exact hw
  · exact h
theorem lfp_le {v : Nat} {x q : Nat → Nat} {fp : Nat × Nat} (h : fp.1 ≤ 4) : ∀ i, (lfp v x q fp i).1 ≤ 4
  | 0 => h
  | i + 1 => ntf_le (lfp_le h i) (by decide)
theorem l_tell_f {v md : Nat} {x : Nat → Nat} : l_f (l_tell v x md st) = l_f st ∧ l_p (l_tell v x md st) = l_p st := by
  unfold l_tell
  split <;> exact ⟨rfl, rfl⟩
theorem l_line_le {v md q0 : Nat} {x q : Nat → Nat} (h : l_f st ≤ 4) : l_f (l_line v x md q0 q st) ≤ 4 := by
  unfold l_line
  split
  · rw [l_tell_f.1]; exact h
  · exact lfp_le (ntf_le h (by decide)) _
theorem c_readLine (t : tp_at h T) (hn : n ≤ 600) (ha : a ≤ n) (hs : s < 5) (k : tk_at h T n a) (c : cs_at h s st) (ok : okL s st) (hf : l_f st ≤ 4)
    (hbad : ∀ p, lsx T n s a = .inl p → ∀ h', ax_same re_F h h' → re_st h' 35 2 → tp_at h' T → ax_i h' 35 7 = nI p → Ret (some (.int 0)) h')
    (hok : ∀ v md, lsx T n s a = .inr (v, md) → v < 11 → lvs v = s → md < 3 → ∀ h', ax_same re_F h h' → tp_at h' T → tk_at h' T n (ps T n a (l_m v)) → cs_at h' s (l_line v (l_x T n a) md (tks T n a) (l_q T n a) st) → Ret (some (.int 1)) h') : mX5_readLine g [.ref 35, .int (nI s)] h Ret := by
  have r0 := t.1
  have F1 : ∀ {J : Nat → Prop} {h1 : ax_H}, rg J h h1 → ax_same re_F h h1 := fun x => sm_mono x.1 (fun b hb => by unfold re_F; omega)
  refine uX5_readLine (fun A hA => vX5_readLine_0 hA ⟨r0, c_verbOf t hn ha hs k (fun e => ⟨_, rfl, fun q => absurd rfl q, fun _ => ⟨Or.inl rfl, hbad _ (by unfold lsx; rw [e]) h sm_rf c.1.1 t k.2.2.1⟩⟩) (fun v e => ⟨_, rfl, fun _ => ⟨r0, ?_⟩, fun q => absurd q (nI_nm1 ?_)⟩)⟩)
  · obtain ⟨-, hv, hvs, -⟩ := vbr_some e
    have hv : v < 11 := by omega
    obtain ⟨en, n1, n3⟩ := tab_nu v hv
    -- the semicolon
    have semi : ∀ (hh : ax_H) (j md : Nat), rg (fun k => k = 4 ∨ k = 5) h hh → tk_at hh T n (ps T n a j) → fp_at hh (l_fp v (l_x T n a) (tks T n a) (l_q T n a) st) → (∀ i, i < lnu v → ax_i hh 43 i = nI (l_x T n a i)) → ((v = 1 ∨ v = 2) → ax_i hh 35 10 = nI md) → md < 3 → j + 1 = l_m v → (tkk T n (ps T n a (j + 1)) = 3 → lsx T n s a = .inr (v, md)) → (¬ tkk T n (ps T n a (j + 1)) = 3 → lsx T n s a = .inl (tks T n (ps T n a (j + 1)))) → mX5_step g [.ref 35] hh (fun v14 h13 => v14 = none ∧ (ax_s h13 35).1 = 5 ∧ (ax_i h13 35 6 = 3 → (ax_s h13 35).1 = 5 ∧ (¬ ax_i h13 35 4 = 0 → ((1 : Int32) = 0 ∨ (1 : Int32) = 1) ∧ Ret (some (.int 1)) h13) ∧ (ax_i h13 35 4 = 0 → (ax_s h13 35).1 = 5 ∧ mX5_tell g [.ref 35, .int (nI v)] h13 (fun v16 h15 => v16 = none ∧ ((1 : Int32) = 0 ∨ (1 : Int32) = 1) ∧ Ret (some (.int 1)) h15))) ∧ (¬ ax_i h13 35 6 = 3 → ((0 : Int32) = 0 ∨ (0 : Int32) = 1) ∧ Ret (some (.int 0)) h13)) := by
      intro hh j md r kj f e43 e10 hmd hj ey en'
      refine c_next (rg_tp r t) hn (ps_le ha j).2 kj (fun h1 r1 k1 => ⟨rfl, ?_⟩)
      have k1 : tk_at h1 T n (ps T n a (j + 1)) := k1
      have r2 : rg (fun k => k = 4 ∨ k = 5) h h1 := rg_tr r (rg_of r1 (fun x hx => by omega))
      have t1 := rg_tp r2 t
      have d1 : dr_at h1 s st := dr_rg r2 (by omega) c.1
      have f1 : fp_at h1 (l_fp v (l_x T n a) (tks T n a) (l_q T n a) st) := ⟨by rw [r1.2 4 (by omega)]; exact f.1, by rw [r1.2 5 (by omega)]; exact f.2⟩
      have kb : tkk T n (ps T n a (j + 1)) < 2 ^ 31 := tkk_lt
      have fl : (l_fp v (l_x T n a) (tks T n a) (l_q T n a) st).1 ≤ 4 := lfp_le (ntf_le hf (by decide)) _
      refine ⟨t1.1, fun q => ⟨t1.1, fun q2 => ⟨Or.inr rfl, ?_⟩, fun q2 => ⟨t1.1, ?_⟩⟩, fun q => ⟨Or.inl rfl, ?_⟩⟩
      · have e3 : tkk T n (ps T n a (j + 1)) = 3 := (nI_eq (b := 3) kb (by decide)).mp (by rw [← k1.2.1]; exact q)
        refine hok v md (ey e3) hv hvs hmd h1 (F1 r2) t1 (by rw [← hj]; exact k1) ?_
        unfold l_line
        rw [if_neg (fun z => q2 (by rw [f1.1, z]; rfl))]
        exact ⟨d1, f1⟩
      · have e3 : tkk T n (ps T n a (j + 1)) = 3 := (nI_eq (b := 3) kb (by decide)).mp (by rw [← k1.2.1]; exact q)
        have z : (l_fp v (l_x T n a) (tks T n a) (l_q T n a) st).1 = 0 := (nI_eq (b := 0) (by omega) (by decide)).mp (by rw [← f1.1]; exact q2)
        obtain ⟨z1, z2, z3⟩ := l_fp_0 z
        have e43' : ∀ i, i < lnu v → ax_i h1 43 i = nI (l_x T n a i) := fun i hi => by rw [(r1.1.2.2.2 43 (by omega)).1]; exact e43 i hi
        refine c_tell (md := md) d1 ok hv hvs e43' (fun w => by rw [r1.2 10 (by omega)]; exact e10 w) z2 z3 (fun h5 sm5 k5 d5 => ⟨rfl, Or.inr rfl, ?_⟩)
        have t5 : tp_at h5 T := tp_same sm5 (by unfold re_F; omega) t1
        refine hok v md (ey e3) hv hvs hmd h5 (sm_tr (F1 r2) sm5) t5 ?_ ?_
        · rw [← hj]
          exact ⟨by rw [k5 11 (by decide) (by decide)]; exact k1.1, by rw [k5 6 (by decide) (by decide)]; exact k1.2.1, by rw [k5 7 (by decide) (by decide)]; exact k1.2.2.1, by rw [k5 8 (by decide) (by decide)]; exact k1.2.2.2.1, fun w => by rw [k5 9 (by decide) (by decide)]; exact k1.2.2.2.2 w⟩
        · unfold l_line
          rw [if_pos z]
          refine ⟨d5, ?_⟩
          rw [l_tell_f.1, l_tell_f.2, z1]
          exact ⟨by rw [k5 4 (by decide) (by decide), f1.1, z], by rw [k5 5 (by decide) (by decide), f1.2, if_pos z]; rfl⟩
      · exact hbad _ (en' (fun z => q (by rw [k1.2.1, z]; rfl))) h1 (F1 r2) d1.1 t1 k1.2.2.1
    -- the numbers
    have key : ∀ m i : Nat, i + m = lnu v → ∀ (hh : ax_H) (o1 : Option Value), rg (fun k => k = 4 ∨ k = 5) h hh → tk_at hh T n (ps T n a i) → fp_at hh (lfp v (l_x T n a) (l_q T n a) (nt (l_f st, l_p st) (ltoo v st) 3 (tks T n a)) i) → (∀ j, j < i → ax_i hh 43 j = nI (l_x T n a j)) → nf T n a m i = nf T n a (lnu v) 0 → A (32, [some (.ref 35), o1, some (.int (nI v)), some (.int (nI i))], [], hh, 0, 0) := by
      intro m
      induction m with
      | zero =>
        intro i hi hh o1 r ki f e43 enf
        have hi : i = lnu v := by omega
        have t1 := rg_tp r t
        have enf : nf T n a (lnu v) 0 = none := enf.symm
        have f' : fp_at hh (l_fp v (l_x T n a) (tks T n a) (l_q T n a) st) := by unfold l_fp; rw [← hi]; exact f
        refine vX5_readLine_32 hA ⟨rfl, vp_in_nI (N := 11) hv (by decide), ?_⟩
        dsimp only
        rw [nI_clamp (by omega), en]
        -- with a mode
        have mode : (v = 1 ∨ v = 2) → mX5_readMode g [.ref 35] hh (fun v11 h10 => ∃ r12 : Int32, v11 = some (.int r12) ∧ (¬ r12 = 0 → (ax_s h10 35).1 = 5 ∧ mX5_step g [.ref 35] h10 (fun v14 h13 => v14 = none ∧ (ax_s h13 35).1 = 5 ∧ (ax_i h13 35 6 = 3 → (ax_s h13 35).1 = 5 ∧ (¬ ax_i h13 35 4 = 0 → ((1 : Int32) = 0 ∨ (1 : Int32) = 1) ∧ Ret (some (.int 1)) h13) ∧ (ax_i h13 35 4 = 0 → (ax_s h13 35).1 = 5 ∧ mX5_tell g [.ref 35, .int (nI v)] h13 (fun v16 h15 => v16 = none ∧ ((1 : Int32) = 0 ∨ (1 : Int32) = 1) ∧ Ret (some (.int 1)) h15))) ∧ (¬ ax_i h13 35 6 = 3 → ((0 : Int32) = 0 ∨ (0 : Int32) = 1) ∧ Ret (some (.int 0)) h13))) ∧ (r12 = 0 → ((0 : Int32) = 0 ∨ (0 : Int32) = 1) ∧ Ret (some (.int 0)) h10)) := by
          intro v12
          refine c_readMode t1 hn (ps_le ha i).2 ki (fun em h2 r2 k2 => ⟨_, rfl, fun q => absurd rfl q, fun _ => ⟨Or.inl rfl, ?_⟩⟩) (fun m em h2 r2 k2 e10 => ⟨_, rfl, fun _ => ⟨(rf_tp r2 t1).1, ?_⟩, fun q => absurd q (by decide)⟩)
          · have r3 : rg (fun k => k = 4 ∨ k = 5) h h2 := rg_tr r (rg_of r2 (fun x hx => by omega))
            have em : mdw T n (ps T n a (i + 1)) = none := em
            rw [hi] at em
            refine hbad _ (by unfold lsx; rw [e]; dsimp only; rw [enf]; dsimp only; rw [if_pos v12, em]) h2 (F1 r3) (dr_rg r3 (by omega) c.1).1 (rf_tp r2 t1) ?_
            rw [← hi]; exact k2.2.2.1
          · have r3 : rg (fun k => k = 4 ∨ k = 5) h h2 := rg_tr r (rg_of r2 (fun x hx => by omega))
            have em' : mdw T n (ps T n a (lnu v + 1)) = some m := by rw [← hi]; exact em
            refine semi h2 (i + 1) m r3 k2 ⟨by rw [r2.2 4 (by omega)]; exact f'.1, by rw [r2.2 5 (by omega)]; exact f'.2⟩ (fun j hj => by rw [(r2.1.2.2.2 43 (by omega)).1]; exact e43 j (by omega)) (fun _ => e10) (mdw_lt em) (by unfold l_m; rw [if_pos v12, hi]) (fun e3 => ?_) (fun e3 => ?_)
            · rw [hi] at e3
              unfold lsx; rw [e]; dsimp only; rw [enf]; dsimp only; rw [if_pos v12, em']; dsimp only; rw [if_pos e3]
            · rw [hi] at e3 ⊢
              unfold lsx; rw [e]; dsimp only; rw [enf]; dsimp only; rw [if_pos v12, em']; dsimp only; rw [if_neg e3]
        refine ⟨fun _ => ⟨fun q => ⟨t1.1, mode (Or.inl ((nI_eq (b := 1) (by omega) (by decide)).mp q))⟩, fun q => ⟨fun q2 => ⟨t1.1, ?_⟩, fun q2 => ⟨t1.1, mode (Or.inr ((nI_eq (b := 2) (by omega) (by decide)).mp q2))⟩⟩⟩, fun q => absurd (nI_le (by omega) (by omega)) q⟩
        have nv : ¬ (v = 1 ∨ v = 2) := fun z => z.elim (fun w => q (by rw [w]; rfl)) (fun w => q2 (by rw [w]; rfl))
        refine semi hh i 0 r ki f' (fun j hj => e43 j (by omega)) (fun w => absurd w nv) (by decide) (by unfold l_m; rw [if_neg nv, hi]) (fun e3 => ?_) (fun e3 => ?_)
        · rw [hi] at e3
          unfold lsx; rw [e]; dsimp only; rw [enf]; dsimp only; rw [if_neg nv, if_pos e3]
        · rw [hi] at e3 ⊢
          unfold lsx; rw [e]; dsimp only; rw [enf]; dsimp only; rw [if_neg nv, if_neg e3]
      | succ m ih =>
        intro i hi hh o1 r ki f e43 enf
        have t1 := rg_tp r t
        have d1 : dr_at hh s st := dr_rg r (by omega) c.1
        have fl := lfp_le (v := v) (x := l_x T n a) (q := l_q T n a) (ntf_le (fp := (l_f st, l_p st)) (b := ltoo v st) (w := 3) (q := tks T n a) hf (by decide)) i
        have enf : (if tkk T n (ps T n a (i + 1)) = 2 then nf T n a m (i + 1) else some (i + 1)) = nf T n a (lnu v) 0 := enf
        refine vX5_readLine_32 hA ⟨rfl, vp_in_nI (N := 11) hv (by decide), ?_⟩
        dsimp only
        rw [nI_clamp (by omega), en]
        refine ⟨fun q => absurd q (nI_ge (by omega) (by omega)), fun _ => ⟨t1.1, c_next t1 hn (ps_le ha i).2 ki (fun h2 r2 k2 => ⟨rfl, ?_⟩)⟩⟩
        have k2 : tk_at h2 T n (ps T n a (i + 1)) := k2
        have r3 : rg (fun k => k = 4 ∨ k = 5) h h2 := rg_tr r (rg_of r2 (fun x hx => by omega))
        have t2 := rg_tp r3 t
        have d2 : dr_at h2 s st := dr_rg r3 (by omega) c.1
        have kb : tkk T n (ps T n a (i + 1)) < 2 ^ 31 := tkk_lt
        refine ⟨t2.1, fun q => ⟨t2.1, ?_⟩, fun q => ⟨Or.inl rfl, ?_⟩⟩
        · have e2 : tkk T n (ps T n a (i + 1)) = 2 := (nI_eq (b := 2) kb (by decide)).mp (by rw [← k2.2.1]; exact q)
          rw [if_pos e2] at enf
          have ex : l_x T n a i = tkn T n (ps T n a (i + 1)) := by unfold l_x; rw [if_pos e2]
          have e9 : ax_i h2 35 9 = nI (l_x T n a i) := by rw [ex]; exact k2.2.2.2.2 e2
          refine c_checkNumber (x := l_x T n a) (fp := lfp v (l_x T n a) (l_q T n a) (nt (l_f st, l_p st) (ltoo v st) 3 (tks T n a)) i) (q := l_q T n a i) d2 ⟨by rw [r2.2 4 (by omega)]; exact f.1, by rw [r2.2 5 (by omega)]; exact f.2⟩ (by omega) hv (by omega) (l_x_le ha) e9 k2.2.2.1 (fun i2 => by rw [(r2.1.2.2.2 43 (by omega)).1]; exact e43 1 (by omega)) (fun h4 r4 f4 => ⟨rfl, ?_⟩)
          have r5 : rg (fun k => k = 4 ∨ k = 5) h h4 := rg_tr r3 (rg_of r4 (fun x hx => Or.inr hx))
          have t4 := rg_tp r5 t
          have d4 : dr_at h4 s st := dr_rg r5 (by omega) c.1
          have k4 : tk_at h4 T n (ps T n a (i + 1)) := tk_rf r4 (fun x hx => by omega) k2
          have r43 : ax_s h4 43 = (11, 3) := d4.1.2.2.2.2.1
          refine ⟨t4.1, 43, d4.1.2.1.2.2.2, t4.1, sh_k r43, by rw [r43]; exact vp_in_nI (by omega) (by decide), ?_⟩
          rw [nI_clamp (by omega), r4.2 9 (by omega), e9, ← nI_succ]
          refine ih (i + 1) (by omega) _ o1 (rg_tr r5 rg_43) (tk_43 k4) ⟨by rw [ai_ne (by omega)]; exact f4.1, by rw [ai_ne (by omega)]; exact f4.2⟩ (fun j hj => ?_) enf
          by_cases ej : j = i
          · rw [ej, ai_eq]
          · rw [ai_ne (by omega), (r4.1.2.2.2 43 (by omega)).1, (r2.1.2.2.2 43 (by omega)).1]
            exact e43 j (by omega)
        · have e2 : ¬ tkk T n (ps T n a (i + 1)) = 2 := fun z => q (by rw [k2.2.1, z]; rfl)
          rw [if_neg e2] at enf
          exact hbad _ (by unfold lsx; rw [e]; dsimp only; rw [← enf]) h2 (F1 r3) d2.1 t2 k2.2.2.1
    refine c_tooMany c.1 ok hv hvs ⟨_, rfl, fun q => ?_, fun q => ⟨r0, r0, ?_⟩⟩
    · refine key (lnu v) 0 (by omega) h _ rg_rf k ?_ (fun j hj => absurd hj (Nat.not_lt_zero j)) rfl
      show fp_at h (nt (l_f st, l_p st) (ltoo v st) 3 (tks T n a))
      rw [b2i_0.mp q]
      unfold nt
      rw [if_neg (fun z => absurd z.2 (by decide))]
      exact c.2
    · rw [k.2.2.1]
      refine c_note (w := 3) (q := tks T n a) r0 c.2 (by show l_f st < 2 ^ 31; omega) (by decide) (fun h7 r7 f7 => ⟨rfl, ?_⟩)
      refine key (lnu v) 0 (by omega) h7 _ (rg_of r7 (fun x hx => Or.inr hx)) (tk_rf r7 (fun x hx => by omega) k) ?_ (fun j hj => absurd hj (Nat.not_lt_zero j)) rfl
      show fp_at h7 (nt (l_f st, l_p st) (ltoo v st) 3 (tks T n a))
      rw [b2i_n0.mp q]
      exact f7
  · obtain ⟨-, hv, -⟩ := vbr_some e; omega
end
end

section
section
variable {g : ax_G} {Ret : Option Value → ax_H → Prop} {h : ax_H} {T : Nat → Int32} {n a s : Nat} {st : lS}
/-! the class's read() -/
def l_st0 : lS := (0, 0, D0, -1, -1, 0, fun _ _ => 0)
theorem okL_0 : okL s l_st0 := ⟨okD_0, fun _ => ⟨⟨Nat.zero_le _, fun i hi => absurd hi (Nat.not_lt_zero i)⟩, rfl, rfl, rfl, rfl⟩⟩
/-- a text: where it doesn't go on, or what its lines told -/
def txf (T : Nat → Int32) (n s : Nat) : Nat → Nat → lS → Nat ⊕ lS
  | 0, _, st => .inr st
  | k + 1, a, st => if tkk T n a = 0 then .inr st else match lsx T n s a with
    | .inl p => .inl p
    | .inr (v, md) => txf T n s k (ps T n a (l_m v + 1)) (l_line v (l_x T n a) md (tks T n a) (l_q T n a) st)
def rdT (T : Nat → Int32) (n s : Nat) : rT := match txf T n s 601 0 l_st0 with
  | .inl p => (1, nI p, D0, 0, fun _ _ => 0)
  | .inr st => if l_f st = 0 then (if nI (dH (l_D st)) ≤ l_h st ∨ nI (dP (l_D st)) ≤ l_o st then (4, nI n, D0, 0, fun _ _ => 0) else (0, -1, l_D st, l_N st, l_C st)) else (nI (l_f st), nI (l_p st), D0, 0, fun _ _ => 0)
theorem ps_mono (ha : a ≤ n) : ∀ i j, i ≤ j → ps T n a i ≤ ps T n a j := by
  intro i j hij
  induction j with
  | zero => rw [show i = 0 by omega]; exact Nat.le_refl _
  | succ j ih =>
    by_cases e : i = j + 1
    · rw [e]; exact Nat.le_refl _
    · have h1 := ih (by omega)
      obtain ⟨b1, b2, -, -⟩ := tk_bd (T := T) (ps_le (T := T) ha j).2
      exact Nat.le_trans h1 (by show ps T n a j ≤ tkb T n (ps T n a j); omega)
theorem l_m_pos (v : Nat) : 1 ≤ l_m v := by unfold l_m; split <;> omega
/-- a line goes on -/
theorem lsx_ps (ha : a ≤ n) {v md : Nat} (hk : tkk T n a ≠ 0) : a + 1 ≤ ps T n a (l_m v + 1) ∧ ps T n a (l_m v + 1) ≤ n := by
  obtain ⟨b1, b2, b3, b4⟩ := tk_bd (T := T) ha
  have := b4 hk
  have h1 : ps T n a 1 ≤ ps T n a (l_m v + 1) := ps_mono ha 1 _ (by omega)
  have h2 : ps T n a 1 = tkb T n a := rfl
  exact ⟨by omega, (ps_le ha _).2⟩
theorem lsx_inr {v md : Nat} (e : lsx T n s a = .inr (v, md)) : v < 11 ∧ lvs v = s ∧ md < 3 ∧ vb T n s a = some v := by
  unfold lsx at e
  cases ev : vb T n s a with
  | none => rw [ev] at e; cases e
  | some w =>
    rw [ev] at e
    obtain ⟨-, h2, h3, -⟩ := vbr_some ev
    dsimp only at e
    cases en : nf T n a (lnu w) 0 with
    | some i => rw [en] at e; cases e
    | none =>
      rw [en] at e
      dsimp only at e
      by_cases z : w = 1 ∨ w = 2
      · rw [if_pos z] at e
        cases em : mdw T n (ps T n a (lnu w + 1)) with
        | none => rw [em] at e; cases e
        | some m =>
          rw [em] at e
          dsimp only at e
          split at e
          · cases e; exact ⟨by omega, h3, mdw_lt em, rfl⟩
          · cases e
      · rw [if_neg z] at e
        split at e
        · cases e; exact ⟨by omega, h3, by decide, rfl⟩
        · cases e
theorem txf_ok : ∀ (k a : Nat) (st : lS), okL s st → l_f st ≤ 4 → ∀ st', txf T n s k a st = .inr st' → okL s st' ∧ l_f st' ≤ 4 := by
  intro k
  induction k with
  | zero => intro a st ok hf st' e; cases e; exact ⟨ok, hf⟩
  | succ k ih =>
    intro a st ok hf st' e
    unfold txf at e
    by_cases z : tkk T n a = 0
    · rw [if_pos z] at e; cases e; exact ⟨ok, hf⟩
    · rw [if_neg z] at e
      cases el : lsx T n s a with
      | inl p => rw [el] at e; cases e
      | inr vm =>
        obtain ⟨v, md⟩ := vm
        rw [el] at e
        obtain ⟨h1, h2, h3, -⟩ := lsx_inr el
        exact ih _ _ (okL_line ok h1 h2 h3) (l_line_le hf) st' e
theorem rdT_ok (s : Nat) : r_ok s (rdT T n s) := by
  unfold rdT r_ok
  cases e : txf T n s 601 0 l_st0 with
  | inl p => intro z; exact absurd z (by show ¬ ((1 : Int32) = 0); decide)
  | inr st =>
    obtain ⟨ok, hf⟩ := txf_ok 601 0 l_st0 okL_0 (by decide) st e
    dsimp only
    by_cases z : l_f st = 0
    · rw [if_pos z]
      by_cases y : nI (dH (l_D st)) ≤ l_h st ∨ nI (dP (l_D st)) ≤ l_o st
      · rw [if_pos y]; intro w; exact absurd w (by show ¬ ((4 : Int32) = 0); decide)
      · rw [if_neg y]; intro _; exact ⟨fun _ => okD_rd ok.1, fun s1 => (ok.2 s1).1⟩
    · rw [if_neg z]; intro w; exact absurd w (by show ¬ (nI (l_f st) = 0); exact nI_ne0 (by omega) (by omega))
theorem c_read {s : Nat} (a : re_st h 35 2) (s2 : ax_s h 2 = (12, 600)) (et : ∀ i, i < 600 → ax_i h 2 i = T i) (hn : n ≤ 600) (hs5 : s < 5) (hq : ∀ h', ax_same re_F h h' → re_st h' 35 2 → rp_at h' s (rdT T n s) → Ret none h') : mX5_read g [.ref 35, .int (nI n), .int (nI s)] h Ret := by
  refine uX5_read (fun A hA => vX5_read_0 hA ⟨a.1, c_begin5 a s2 hn hs5 (fun h1 s1 re1 rb => ⟨rfl, re1.1, ?_⟩)⟩)
  obtain ⟨b1, b2, b3, b4, b5, b6, ⟨c1, c2, c3, c4⟩, b8⟩ := rb
  have t1 : tp_at h1 T := ⟨re1.1, re1.2.1.1, by rw [s1.2.1]; exact s2, fun i hi => by rw [(s1.2.2.2 2 (by unfold re_F; omega)).1]; exact et i hi⟩
  have cs1 : cs_at h1 s l_st0 := ⟨⟨re1, b5, b6, ⟨c1, c2, fun k hk => (c3 k hk).1, fun k hk => (c3 k hk).2, fun p hp => absurd hp (Nat.not_lt_zero p), fun p q hp hq => (c4 (p * 12 + q) (by omega)).1, fun p q hp hq => (c4 (p * 12 + q) (by omega)).2⟩, fun z => ⟨(re1.2.2.2.2.2.2 s z hs5).2, Nat.zero_le _, b8 z, fun i j hi => absurd hi (Nat.not_lt_zero i)⟩⟩, b3, b4⟩
  refine c_step5 (a := 0) t1 hn (Nat.zero_le _) b1 b2 (fun h3 r3 e6 e7 e8 e9 => ⟨rfl, ?_⟩)
  have k3 : tk_at h3 T n 0 := ⟨by rw [r3.2 11 (by omega)]; exact b1, e6, e7, e8, e9⟩
  have g3 : rg (fun _ => False) h1 h3 := rg_of r3 (fun x hx => Or.inl (by omega))
  have cs3 : cs_at h3 s l_st0 := ⟨dr_rg g3 (by simp) cs1.1, fp_rg g3 (by simp) cs1.2⟩
  have S3 : ax_same re_F h h3 := sm_tr s1 (sm_mono r3.1 (fun b hb => by unfold re_F; omega))
  have key : ∀ m i : Nat, i + m = 601 → ∀ (hh : ax_H) (p : Nat) (st : lS) (o1 : Option Value), i ≤ p → p ≤ n → ax_same re_F h hh → tp_at hh T → tk_at hh T n p → cs_at hh s st → okL s st → l_f st ≤ 4 → txf T n s m p st = txf T n s 601 0 l_st0 → A (12, [some (.ref 35), o1, some (.int (nI s)), some (.int (nI i))], [], hh, 0, 0) := by
    intro m
    induction m with
    | zero => intro i hi hh p st o1 hip hpn; omega
    | succ m ih =>
      intro i hi hh p st o1 hip hpn S t k cs ok hf ex
      have ex : (if tkk T n p = 0 then .inr st else match lsx T n s p with
        | .inl p => .inl p
        | .inr (v, md) => txf T n s m (ps T n p (l_m v + 1)) (l_line v (l_x T n p) md (tks T n p) (l_q T n p) st)) = txf T n s 601 0 l_st0 := ex
      obtain ⟨d1, d2, d3, d4, d5⟩ := id cs.1
      refine vX5_read_12 hA ⟨fun q => absurd q (nI_nlt (a := 600) (b := i) (by omega) (by decide)), fun _ => ⟨t.1, fun q => ?_, fun q => ⟨t.1, c_readLine t hn hpn hs5 k cs ok hf (fun pl el h2 sm2 re2 t2 e7 => ⟨_, rfl, fun z => absurd rfl z, fun _ => ⟨t2.1, t2.1, t2.1, ?_⟩⟩) (fun v md el hv hvs hmd h2 sm2 t2 k2 cs2 => ⟨_, rfl, fun _ => ⟨t2.1, ?_⟩, fun z => absurd z (by decide)⟩)⟩⟩⟩
      · -- the end
        have e0 : tkk T n p = 0 := (nI_eq (b := 0) tkk_lt (by decide)).mp (by rw [← k.2.1]; exact q)
        rw [if_pos e0] at ex
        have hH : ax_i hh 36 5 = nI (dH (l_D st)) := d4.1
        have hP : ax_i hh 36 6 = nI (dP (l_D st)) := d4.2.1
        have okd := ok.1
        -- the fault is there already, or is noted
        have flt : (nI (dH (l_D st)) ≤ l_h st ∨ nI (dP (l_D st)) ≤ l_o st) → mX5_note g [.ref 35, .int 4, .int (ax_i hh 35 11)] hh (fun v7 h6 => v7 = none ∧ Ret none h6) := by
          intro y
          rw [k.1]
          refine c_note (w := 4) (q := n) t.1 cs.2 (by show l_f st < 2 ^ 31; omega) (by decide) (fun h6 r6 f6 => ⟨rfl, hq h6 (sm_tr S (sm_mono r6.1 (fun b hb => by unfold re_F; omega))) (re_st_same r6.1 (fun q _ _ => by omega) d1) ?_⟩)
          unfold rdT
          rw [← ex]
          dsimp only
          by_cases z : l_f st = 0
          · rw [if_pos z, if_pos y]
            unfold nt at f6
            rw [if_pos ⟨z, rfl⟩] at f6
            exact ⟨f6.1, f6.2, fun w => absurd w (by show ¬ ((4 : Int32) = 0); decide)⟩
          · rw [if_neg z]
            unfold nt at f6
            rw [if_neg (fun w => z w.1)] at f6
            exact ⟨f6.1, by rw [f6.2, if_neg z]; rfl, fun w => absurd w (by show ¬ (nI (l_f st) = 0); exact nI_ne0 (by omega) (by omega))⟩
        refine ⟨t.1, t.1, 36, d1.2.1.2.1, d1.2.2.1.1, fun q1 => ⟨t.1, t.1, flt (Or.inl ?_)⟩, fun q1 => ⟨t.1, t.1, 36, d1.2.1.2.1, d1.2.2.1.1, fun q2 => ?_, fun q2 => ⟨t.1, t.1, flt (Or.inr ?_)⟩⟩⟩
        · rw [← hH, ← d2]; exact q1
        · have y : ¬ (nI (dH (l_D st)) ≤ l_h st ∨ nI (dP (l_D st)) ≤ l_o st) := fun y => y.elim (fun w => q1 (by rw [hH, d2]; exact w)) (fun w => by rw [hP, d3] at q2; exact absurd q2 (nt_lt.mpr w))
          refine hq hh S d1 ?_
          unfold rdT
          rw [← ex]
          dsimp only
          by_cases z : l_f st = 0
          · rw [if_pos z, if_neg y]
            have f := cs.2
            refine ⟨by rw [f.1]; show nI (l_f st) = _; rw [z]; rfl, by rw [f.2, if_pos z]; rfl, fun _ => ⟨fun _ => ⟨d1.2.2.1, ⟨okd.1.2, okd.2.1⟩, ⟨d4.1, d4.2.1⟩, d4.2.2.1, d4.2.2.2.1, d4.2.2.2.2.1, fun p q hp hq => d4.2.2.2.2.2.1 p q (Nat.lt_of_lt_of_le hp okd.2.1) (Nat.lt_of_lt_of_le hq okd.1.2), fun p q hp hq => d4.2.2.2.2.2.2 p q (Nat.lt_of_lt_of_le hp okd.2.1) (Nat.lt_of_lt_of_le hq okd.1.2)⟩, fun z1 => d5 z1⟩⟩
          · rw [if_neg z]
            have f := cs.2
            exact ⟨f.1, by rw [f.2, if_neg z]; rfl, fun w => absurd w (by show ¬ (nI (l_f st) = 0); exact nI_ne0 (by omega) (by omega))⟩
        · rw [hP, d3] at q2; exact nt_lt.mp q2
      · -- no text goes on
        have ne0 : tkk T n p ≠ 0 := fun z => q (by rw [k.2.1, z]; rfl)
        rw [if_neg ne0, el] at ex
        have e75 : ax_i (ax_pi h2 35 4 1) 35 7 = nI pl := by rw [ai_ne (by omega)]; exact e7
        rw [e75]
        refine hq _ (sm_tr S (sm_tr sm2 (sm_tr (sm_pi (by unfold re_F; omega)) (sm_pi (by unfold re_F; omega))))) ?_ ?_
        · exact re_st_same (F := fun b => b = 35) (sm_tr (sm_pi rfl) (sm_pi rfl)) (fun q _ _ => by omega) re2
        · unfold rdT
          rw [← ex]
          exact ⟨by rw [ai_ne (by omega), ai_eq]; rfl, by rw [ai_eq]; rfl, fun w => absurd w (by show ¬ ((1 : Int32) = 0); decide)⟩
      · -- a line
        have ne0 : tkk T n p ≠ 0 := fun z => q (by rw [k.2.1, z]; rfl)
        rw [if_neg ne0, el] at ex
        obtain ⟨l1, l2⟩ := lsx_ps (v := v) (md := md) hpn ne0
        refine c_next t2 hn (ps_le hpn (l_m v)).2 k2 (fun h3 r3 k3 => ⟨rfl, ?_⟩)
        have g3 : rg (fun _ => False) h2 h3 := rg_of r3 (fun x hx => Or.inl (by omega))
        rw [← nI_succ]
        exact ih (i + 1) (by omega) h3 (ps T n p (l_m v + 1)) _ o1 (by omega) l2 (sm_tr S (sm_tr sm2 (sm_mono r3.1 (fun b hb => by unfold re_F; omega)))) (rf_tp r3 t2) k3 ⟨dr_rg g3 (by simp) cs2.1, fp_rg g3 (by simp) cs2.2⟩ (okL_line ok hv hvs hmd) (l_line_le hf) ex
  exact key 601 0 (by omega) h3 0 l_st0 _ (Nat.le_refl _) (Nat.zero_le _) S3 (rf_tp r3 t1) k3 cs3 okL_0 (by decide) rfl
end
end

section
section
/-! packed words -/
def pkF (f : Nat → Nat) : Nat → Nat
  | 0 => 0
  | k + 1 => pkF f k * 256 + f k
theorem pkF_inj {F f : Nat → Nat} : ∀ {k m : Nat}, (∀ j, j < k → 1 ≤ F j ∧ F j < 256) → (∀ j, j < m → 1 ≤ f j ∧ f j < 256) → pkF F k = pkF f m → k = m ∧ ∀ j, j < k → F j = f j := by
  intro k
  induction k with
  | zero =>
    intro m _ hf e
    cases m with
    | zero => exact ⟨rfl, fun j hj => absurd hj (Nat.not_lt_zero j)⟩
    | succ m => have := (hf m (by omega)).1; have e : 0 = pkF f m * 256 + f m := e; omega
  | succ k ih =>
    intro m hF hf e
    cases m with
    | zero => have := (hF k (by omega)).1; have e : pkF F k * 256 + F k = 0 := e; omega
    | succ m =>
      have e : pkF F k * 256 + F k = pkF f m * 256 + f m := e
      have a1 := (hF k (by omega)).2
      have a2 := (hf m (by omega)).2
      obtain ⟨h1, h2⟩ := ih (m := m) (fun j hj => hF j (by omega)) (fun j hj => hf j (by omega)) (by omega)
      refine ⟨by omega, fun j hj => ?_⟩
      by_cases ej : j = k
      · subst ej; rw [show F j = f m by omega, h1]
      · exact h2 j (by omega)
theorem pkF_lt {F : Nat → Nat} : ∀ {k : Nat}, (∀ j, j < k → F j < 256) → pkF F k < 256 ^ k
  | 0, _ => by show 0 < 1; decide
  | k + 1, h => by
    have h1 := pkF_lt (k := k) (fun j hj => h j (by omega))
    have h2 := h k (by omega)
    show pkF F k * 256 + F k < 256 ^ (k + 1)
    rw [Nat.pow_succ]
    omega
theorem pkF_lt2 {F : Nat → Nat} : ∀ k : Nat, (∀ j, j < k + 1 → F j ≤ 122) → pkF F (k + 1) < 123 * 256 ^ k
  | 0, h => by have := h 0 (by decide); show 0 * 256 + F 0 < 123 * 1; omega
  | k + 1, h => by
    have h1 := pkF_lt2 k (fun j hj => h j (by omega))
    have h2 := h (k + 1) (by omega)
    show pkF F (k + 1) * 256 + F (k + 1) < 123 * 256 ^ (k + 1)
    rw [Nat.pow_succ]
    omega
theorem pkF_b {F : Nat → Nat} {k : Nat} (hk : k ≤ 8) (h : ∀ j, j < k → F j ≤ 122) : pkF F k < 2 ^ 63 ∧ (k ≤ 7 → pkF F k < 2 ^ 56) := by
  have h1 := pkF_lt (F := F) (k := k) (fun j hj => by have := h j hj; omega)
  rcases (by omega : k ≤ 7 ∨ k = 8) with q | q
  · have h2 : (256 : Nat) ^ k ≤ 256 ^ 7 := Nat.pow_le_pow_right (by decide) q
    have h3 : (256 : Nat) ^ 7 = 2 ^ 56 := by decide
    refine ⟨?_, fun _ => by omega⟩
    have : (2 : Nat) ^ 56 < 2 ^ 63 := by decide
    omega
  · subst q
    have h4 := pkF_lt (F := F) (k := 7) (fun j hj => by have := h j (by omega); omega)
    have h5 := h 7 (by decide)
    have h3 : (256 : Nat) ^ 7 = 2 ^ 56 := by decide
    refine ⟨?_, fun z => by omega⟩
    have h6 : pkF F 8 < 123 * 256 ^ 7 := pkF_lt2 (F := F) 7 h
    have h7 : 123 * (256 : Nat) ^ 7 < 2 ^ 63 := by decide
    omega
theorem sh8 : ((8 : Int32).toInt64 &&& 63) = 8 := by decide
theorem pk_sh {X B : Nat} (hX : X < 2 ^ 56) (hB : B < 256) : (Int64.ofNat X <<< ((8 : Int32).toInt64 &&& 63)) ||| (nI B).toInt64 = Int64.ofNat (X * 256 + B) := by
  rw [sh8]
  have eB : (nI B).toInt64 = Int64.ofNat B := by
    apply Int64.toInt_inj.mp
    rw [Int32.toInt_toInt64, nI_toInt (by omega), Int64.toInt_ofNat_of_lt (by omega)]
  rw [eB]
  apply Int64.toBitVec_inj.mp
  apply BitVec.eq_of_toNat_eq
  simp only [Int64.toBitVec_or, Int64.toBitVec_shiftLeft, BitVec.toNat_or, BitVec.toNat_shiftLeft]
  have e1 : (Int64.ofNat X).toBitVec.toNat = X := by show (BitVec.ofNat 64 X).toNat = X; rw [BitVec.toNat_ofNat]; exact Nat.mod_eq_of_lt (by omega)
  have e2 : (Int64.ofNat B).toBitVec.toNat = B := by show (BitVec.ofNat 64 B).toNat = B; rw [BitVec.toNat_ofNat]; exact Nat.mod_eq_of_lt (by omega)
  have e3 : (Int64.ofNat (X * 256 + B)).toBitVec.toNat = X * 256 + B := by show (BitVec.ofNat 64 (X * 256 + B)).toNat = _; rw [BitVec.toNat_ofNat]; exact Nat.mod_eq_of_lt (by omega)
  rw [e2, e3]
  have e4 : ((Int64.ofNat X).toBitVec <<< ((8 : Int64).toBitVec.smod 64)).toNat = X * 256 := by
    rw [show ((8 : Int64).toBitVec.smod 64) = 8#64 by decide]
    show ((Int64.ofNat X).toBitVec <<< (8#64).toNat).toNat = _
    rw [BitVec.toNat_shiftLeft, e1, show (8#64).toNat = 8 from rfl, Nat.shiftLeft_eq]
    exact Nat.mod_eq_of_lt (by omega)
  rw [e4]
  have := Nat.two_pow_add_eq_or_of_lt (i := 8) (b := B) (by omega) X
  rw [show X * 256 = 2 ^ 8 * X by omega]
  exact this.symm
end
end

section
section
variable {g : ax_G} {Ret : Option Value → ax_H → Prop} {h : ax_H} {T : Nat → Int32} {n a s : Nat}
/-! the reference's token() -/
theorem b8_tab : ∀ k, k < 256 → 0 ≤ ((nI k - 128) &&& 255) ∧ (((nI k - 128) &&& 255) = 10 ↔ (nI k - 128) = 10) ∧ (((nI k - 128) &&& 255) = 32 ↔ (nI k - 128) = 32) ∧ (((nI k - 128) &&& 255) = 59 ↔ (nI k - 128) = 59) ∧ ((97 ≤ ((nI k - 128) &&& 255) ∧ ((nI k - 128) &&& 255) ≤ 122) ↔ (97 ≤ (nI k - 128) ∧ (nI k - 128) ≤ 122)) ∧ ((48 ≤ ((nI k - 128) &&& 255) ∧ ((nI k - 128) &&& 255) ≤ 57) ↔ (48 ≤ (nI k - 128) ∧ (nI k - 128) ≤ 57)) ∧ (48 ≤ (nI k - 128) → ((nI k - 128) &&& 255) = (nI k - 128)) := by decide +kernel
theorem b8 {x : Int32} (hx : fits .byte (.int x) = true) : 0 ≤ (x &&& 255) ∧ ((x &&& 255) = 10 ↔ x = 10) ∧ ((x &&& 255) = 32 ↔ x = 32) ∧ ((x &&& 255) = 59 ↔ x = 59) ∧ ((97 ≤ (x &&& 255) ∧ (x &&& 255) ≤ 122) ↔ (97 ≤ x ∧ x ≤ 122)) ∧ ((48 ≤ (x &&& 255) ∧ (x &&& 255) ≤ 57) ↔ (48 ≤ x ∧ x ≤ 57)) ∧ (48 ≤ x → (x &&& 255) = x) := by
  have hx : (-128 ≤ x ∧ x ≤ 127) := by simpa [fits] using hx
  have h1 := i_le.mp hx.1
  have h2 := i_le.mp hx.2
  have h1 : (-128 : Int) ≤ x.toInt := h1
  have h2 : x.toInt ≤ (127 : Int) := h2
  have e : x = nI (x.toInt + 128).toNat - 128 := by
    apply i_inj
    have e1 : (nI (x.toInt + 128).toNat).toInt = x.toInt + 128 := by rw [nI_toInt (by omega)]; omega
    rw [i32_sub (by rw [e1]; show -2147483648 ≤ x.toInt + 128 - (128 : Int); omega) (by rw [e1]; show x.toInt + 128 - (128 : Int) < 2147483648; omega), e1]
    show x.toInt = x.toInt + 128 - (128 : Int)
    omega
  have := b8_tab (x.toInt + 128).toNat (by omega)
  rw [← e] at this
  exact this
def mt_at (h : ax_H) (T : Nat → Int32) (n : Nat) : Prop := mo_st h 77 ∧ (∀ i, i < 600 → ax_i h 78 i = T i) ∧ ax_i h 77 12 = nI n
/-- fields of the reference's object alone; those with J k may change (ints), and its long 16 -/
def mf (J : Nat → Prop) (h h' : ax_H) : Prop := ax_same (fun b => b = 77) h h' ∧ ∀ k, ¬ J k → ax_i h' 77 k = ax_i h 77 k
theorem mf_rf {J : Nat → Prop} : mf J h h := ⟨sm_rf, fun _ _ => rfl⟩
theorem mf_tr {J : Nat → Prop} {h1 h2 : ax_H} (x : mf J h h1) (y : mf J h1 h2) : mf J h h2 := ⟨sm_tr x.1 y.1, fun k hk => (y.2 k hk).trans (x.2 k hk)⟩
theorem mf_pi {J : Nat → Prop} {k : Nat} {v : Int32} (hJ : J k) : mf J h (ax_pi h 77 k v) := ⟨sm_pi rfl, fun j hj => ai_ne (Or.inr (fun e => hj (e ▸ hJ)))⟩
theorem mf_pl {J : Nat → Prop} {k : Nat} {v : Int64} : mf J h (ax_pl h 77 k v) := ⟨sm_pl rfl, fun j _ => ai_pl⟩
theorem mf_mono {J J' : Nat → Prop} {h1 : ax_H} (x : mf J h h1) (i : ∀ k, J k → J' k) : mf J' h h1 := ⟨x.1, fun k hk => x.2 k (fun q => hk (i k q))⟩
theorem mf_mt {J : Nat → Prop} {h1 : ax_H} (x : mf J h h1) (i : ¬ J 12) (t : mt_at h T n) : mt_at h1 T n := ⟨mo_st_same x.1 t.1, fun j hj => by rw [(x.1.2.2.2 78 (by omega)).1]; exact t.2.1 j hj, by rw [x.2 12 i]; exact t.2.2⟩
def b255 (x : Int32) : Int32 := x &&& 255
theorem c_see {p : Nat} (t : mt_at h T n) (hn : n ≤ 600) (e11 : ax_i h 77 11 = nI p) (hp : p ≤ n) (hq : Ret (some (.int (if p < n then b255 (T p) else -1))) h) : mX10_see g [.ref 77] h Ret := by
  obtain ⟨r1, s1⟩ : ax_r h 77 1 = some 78 ∧ ax_s h 78 = (12, 2400) := t.1.2 0 _ rfl
  refine eX10_see ⟨t.1.1, t.1.1, fun q => ?_, fun q => ⟨t.1.1, 78, r1, t.1.1, sh_k s1, ?_, ?_⟩⟩
  · rw [t.2.2, e11] at q
    have q := (nI_leI (by omega) (by omega)).mp q
    rw [if_neg (by omega)] at hq; exact hq
  · rw [t.2.2, e11] at q
    have q := Nat.not_le.mp (fun z => q (nI_le (a := n) (b := p) z (by omega)))
    rw [e11, s1]; exact vp_in_nI (by omega) (by decide)
  · rw [t.2.2, e11] at q
    have q := Nat.not_le.mp (fun z => q (nI_le (a := n) (b := p) z (by omega)))
    rw [if_pos q] at hq
    rw [e11, nI_clamp (by omega), t.2.1 p (by omega)]; exact hq
def mkd (k : Nat) : Nat := [0, 2, 3, 4, 1].getD k 0
def bN (T : Nat → Int32) (s : Nat) : Nat → Nat := fun j => (T (s + j)).toInt.toNat
def mwd (T : Nat → Int32) (n a : Nat) : Int64 := if tkb T n a - tks T n a ≤ 8 then Int64.ofNat (pkF (bN T (tks T n a)) (tkb T n a - tks T n a)) else 0
/-- the token read last is that at place a -/
def mk_at (h : ax_H) (T : Nat → Int32) (n a : Nat) : Prop := ax_i h 77 13 = nI (tks T n a) ∧ ax_i h 77 11 = nI (tkb T n a) ∧ ax_i h 77 14 = nI (mkd (tkk T n a)) ∧ (tkk T n a = 2 → ax_i h 77 15 = nI (tkn T n a)) ∧ (tkk T n a = 1 → ax_l h 77 16 = mwd T n a)
theorem isL_b {x : Int32} (hx : isL x = true) : x = nI x.toInt.toNat ∧ 97 ≤ x.toInt.toNat ∧ x.toInt.toNat ≤ 122 := by
  obtain ⟨h1, h2⟩ := of_decide_eq_true hx
  have h1 : (97 : Int) ≤ x.toInt := i_le.mp h1
  have h2 : x.toInt ≤ (122 : Int) := i_le.mp h2
  refine ⟨i_inj ?_, by omega, by omega⟩
  rw [nI_toInt (by omega)]; omega
theorem c_mtoken (t : mt_at h T n) (hT : tyb T) (hn : n ≤ 600) (e11 : ax_i h 77 11 = nI a) (ha : a ≤ n) (hq : ∀ h', mf (fun k => 11 ≤ k ∧ k ≤ 15 ∧ k ≠ 12) h h' → mk_at h' T n a → Ret none h') : mX10_token g [.ref 77] h Ret := by
  refine uX10_token (fun A hA => ?_)
  -- letters
  have lets : ∀ m k : Nat, tks T n a + k + m = n → ∀ (hh : ax_H) (o1 : Option Value), mf (fun k => 11 ≤ k ∧ k ≤ 15 ∧ k ≠ 12) h hh → ax_i hh 77 13 = nI (tks T n a) → ax_i hh 77 11 = nI (tks T n a + k) → (k ≤ 8 → ax_l hh 77 16 = Int64.ofNat (pkF (bN T (tks T n a)) k)) → (∀ j, j < k → isL (T (tks T n a + j)) = true) → rn isL T n (tks T n a + k) = tkb T n a → tkk T n a = 1 → A (74, [some (.ref 77), o1, some (.int (nI k))], [], hh, 0, 0) := by
    intro m
    induction m with
    | zero =>
      intro k hk hh o1 r f13 f11 f16 al er ek
      have t1 := mf_mt r (by omega) t
      rw [rn_no (by omega)] at er
      refine vX10_token_74 hA ⟨t1.1.1, c_see t1 hn f11 (by omega) ⟨_, rfl, ?_⟩⟩
      rw [if_neg (by omega)]
      refine c_min ⟨_, rfl, fun _ => ⟨fun q => ⟨t1.1.1, t1.1.1, t1.1.1, ?_⟩, fun q => ⟨t1.1.1, t1.1.1, ?_⟩⟩, fun q => absurd rfl q⟩
      · have q := (nI_leI (a := k) (b := 8) (by omega) (by decide)).mp q
        refine hq _ (mf_tr r (mf_tr mf_pl (mf_pi (by omega)))) ⟨by rw [ai_ne (by omega), ai_pl]; exact f13, by rw [ai_ne (by omega), ai_pl, f11, er], by rw [ai_eq, ek]; rfl, fun z => by omega, fun _ => ?_⟩
        rw [al_pi, al_pl, if_pos ⟨rfl, rfl⟩, f16 q]
        unfold mwd; rw [← er, show tks T n a + k - tks T n a = k by omega, if_pos q]
      · have q := Nat.not_le.mp (fun z => q (nI_le (a := k) (b := 8) z (by decide)))
        refine hq _ (mf_tr r (mf_tr mf_pl (mf_pi (by omega)))) ⟨by rw [ai_ne (by omega), ai_pl]; exact f13, by rw [ai_ne (by omega), ai_pl, f11, er], by rw [ai_eq, ek]; rfl, fun z => by omega, fun _ => ?_⟩
        rw [al_pi, al_pl, if_pos ⟨rfl, rfl⟩]
        unfold mwd; rw [← er, show tks T n a + k - tks T n a = k by omega, if_neg (by omega)]
    | succ m ih =>
      intro k hk hh o1 r f13 f11 f16 al er ek
      have t1 := mf_mt r (by omega) t
      have hb := hT (tks T n a + k) (by omega)
      obtain ⟨-, -, -, -, bl, -, bi⟩ := b8 hb
      refine vX10_token_74 hA ⟨t1.1.1, c_see t1 hn f11 (by omega) ⟨_, rfl, ?_⟩⟩
      rw [if_pos (by omega)]
      refine c_min ⟨_, rfl, fun q => ?_, fun q => ⟨t1.1.1, t1.1.1, c_see t1 hn f11 (by omega) ⟨_, rfl, t1.1.1, rfl, t1.1.1, t1.1.1, ?_⟩⟩⟩
      · have nl : isL (T (tks T n a + k)) = false := decide_eq_false (fun z => of_decide_eq_false (b2i_0.mp q) (bl.mpr z))
        rw [rn_no (fun z => by rw [nl] at z; exact absurd z.2 (by decide))] at er
        refine ⟨fun q => ⟨t1.1.1, t1.1.1, t1.1.1, ?_⟩, fun q => ⟨t1.1.1, t1.1.1, ?_⟩⟩
        · have q := (nI_leI (a := k) (b := 8) (by omega) (by decide)).mp q
          refine hq _ (mf_tr r (mf_tr mf_pl (mf_pi (by omega)))) ⟨by rw [ai_ne (by omega), ai_pl]; exact f13, by rw [ai_ne (by omega), ai_pl, f11, er], by rw [ai_eq, ek]; rfl, fun z => by omega, fun _ => ?_⟩
          rw [al_pi, al_pl, if_pos ⟨rfl, rfl⟩, f16 q]
          unfold mwd; rw [← er, show tks T n a + k - tks T n a = k by omega, if_pos q]
        · have q := Nat.not_le.mp (fun z => q (nI_le (a := k) (b := 8) z (by decide)))
          refine hq _ (mf_tr r (mf_tr mf_pl (mf_pi (by omega)))) ⟨by rw [ai_ne (by omega), ai_pl]; exact f13, by rw [ai_ne (by omega), ai_pl, f11, er], by rw [ai_eq, ek]; rfl, fun z => by omega, fun _ => ?_⟩
          rw [al_pi, al_pl, if_pos ⟨rfl, rfl⟩]
          unfold mwd; rw [← er, show tks T n a + k - tks T n a = k by omega, if_neg (by omega)]
      · have yl : isL (T (tks T n a + k)) = true := decide_eq_true (bl.mp (of_decide_eq_true (b2i_n0.mp q)))
        obtain ⟨il, i1, i2⟩ := isL_b yl
        have e255 : b255 (T (tks T n a + k)) = nI (bN T (tks T n a) k) := by
          unfold b255
          rw [bi (by rw [il]; exact nI_le (a := 48) (by omega) (by omega))]
          exact il
        rw [if_pos (by omega), e255, ← nI_succ]
        refine ih (k + 1) (by omega) _ _ (mf_tr r (mf_tr mf_pl (mf_pi (by omega)))) ?_ ?_ (fun k8 => ?_) (fun j hj => ?_) ?_ ek
        · rw [ai_ne (by omega), ai_pl]; exact f13
        · rw [ai_eq, ai_pl, f11, ← nI_succ]; rfl
        · rw [al_pi, al_pl, if_pos ⟨rfl, rfl⟩, f16 (by omega)]
          have hb2 := (pkF_b (F := bN T (tks T n a)) (k := k) (by omega) (fun j hj => (isL_b (al j hj)).2.2)).2 (by omega)
          exact pk_sh hb2 (by show bN T (tks T n a) k < 256; unfold bN; omega)
        · by_cases ej : j = k
          · rw [ej]; exact yl
          · exact al j (by omega)
        · rw [← er, rn_go (a := tks T n a + k) (by omega) yl]; rfl
  -- digits
  have digs : ∀ m k : Nat, tks T n a + k + m = n → ∀ (hh : ax_H) (o1 : Option Value), mf (fun k => 11 ≤ k ∧ k ≤ 15 ∧ k ≠ 12) h hh → ax_i hh 77 13 = nI (tks T n a) → ax_i hh 77 11 = nI (tks T n a + k) → (k ≤ 3 → ax_i hh 77 15 = nI (dval T (tks T n a) k)) → rn isD T n (tks T n a + k) = tkb T n a → tkk T n a = (if tkb T n a - tks T n a ≤ 3 then 2 else 4) → A (163, [some (.ref 77), o1, some (.int (nI k))], [], hh, 0, 0) := by
    intro m
    have fin : ∀ (k : Nat) (hh : ax_H), tks T n a + k ≤ n → mf (fun k => 11 ≤ k ∧ k ≤ 15 ∧ k ≠ 12) h hh → ax_i hh 77 13 = nI (tks T n a) → ax_i hh 77 11 = nI (tks T n a + k) → (k ≤ 3 → ax_i hh 77 15 = nI (dval T (tks T n a) k)) → tks T n a + k = tkb T n a → tkk T n a = (if tkb T n a - tks T n a ≤ 3 then 2 else 4) → (nI k ≤ 3 → (ax_s hh 77).1 = 10 ∧ Ret none (ax_pi hh 77 14 3)) ∧ (¬ (nI k ≤ 3) → (ax_s hh 77).1 = 10 ∧ Ret none (ax_pi hh 77 14 1)) := by
      intro k hh hk r f13 f11 f15 er ek
      have t1 := mf_mt r (by omega) t
      rw [← er, show tks T n a + k - tks T n a = k by omega] at ek
      refine ⟨fun q => ⟨t1.1.1, ?_⟩, fun q => ⟨t1.1.1, ?_⟩⟩
      · have q := (nI_leI (a := k) (b := 3) (by omega) (by decide)).mp q
        rw [if_pos q] at ek
        refine hq _ (mf_tr r (mf_pi (by omega))) ⟨by rw [ai_ne (by omega)]; exact f13, by rw [ai_ne (by omega), f11, er], by rw [ai_eq, ek]; rfl, fun _ => ?_, fun z => by omega⟩
        rw [ai_ne (by omega), f15 q]
        unfold tkn; rw [← er, show tks T n a + k - tks T n a = k by omega]
      · have q := Nat.not_le.mp (fun z => q (nI_le (a := k) (b := 3) z (by decide)))
        rw [if_neg (by omega)] at ek
        exact hq _ (mf_tr r (mf_pi (by omega))) ⟨by rw [ai_ne (by omega)]; exact f13, by rw [ai_ne (by omega), f11, er], by rw [ai_eq, ek]; rfl, fun z => by omega, fun z => by omega⟩
    induction m with
    | zero =>
      intro k hk hh o1 r f13 f11 f15 er ek
      have t1 := mf_mt r (by omega) t
      rw [rn_no (by omega)] at er
      refine vX10_token_163 hA ⟨t1.1.1, c_see t1 hn f11 (by omega) ⟨_, rfl, ?_⟩⟩
      rw [if_neg (by omega)]
      exact c_min ⟨_, rfl, fun _ => fin k hh (by omega) r f13 f11 f15 er ek, fun q => absurd rfl q⟩
    | succ m ih =>
      intro k hk hh o1 r f13 f11 f15 er ek
      have t1 := mf_mt r (by omega) t
      have hb := hT (tks T n a + k) (by omega)
      obtain ⟨-, -, -, -, -, bd, bi⟩ := b8 hb
      refine vX10_token_163 hA ⟨t1.1.1, c_see t1 hn f11 (by omega) ⟨_, rfl, ?_⟩⟩
      rw [if_pos (by omega)]
      refine c_min ⟨_, rfl, fun q => ?_, fun q => ?_⟩
      · have nd : isD (T (tks T n a + k)) = false := decide_eq_false (fun z => of_decide_eq_false (b2i_0.mp q) (bd.mpr z))
        rw [rn_no (fun z => by rw [nd] at z; exact absurd z.2 (by decide))] at er
        exact fin k hh (by omega) r f13 f11 f15 er ek
      · have yd : isD (T (tks T n a + k)) = true := decide_eq_true (bd.mp (of_decide_eq_true (b2i_n0.mp q)))
        have er' : rn isD T n (tks T n a + (k + 1)) = tkb T n a := by rw [← er, rn_go (a := tks T n a + k) (by omega) yd]; rfl
        refine ⟨fun q2 => ⟨t1.1.1, t1.1.1, rfl, t1.1.1, t1.1.1, ?_⟩, fun q2 => ⟨t1.1.1, t1.1.1, c_see t1 hn f11 (by omega) ⟨_, rfl, t1.1.1, rfl, t1.1.1, t1.1.1, ?_⟩⟩⟩
        · have q2 := (nI_leI (a := 3) (b := k) (by decide) (by omega)).mp q2
          rw [← nI_succ]
          refine ih (k + 1) (by omega) _ _ (mf_tr r (mf_tr (mf_pi (by omega)) (mf_pi (by omega)))) ?_ ?_ (fun z => by omega) er' ek
          · rw [ai_ne (by omega), ai_ne (by omega)]; exact f13
          · rw [ai_eq, ai_ne (by omega), f11, ← nI_succ]; rfl
        · have q2 := Nat.not_le.mp (fun z => q2 (nI_le (a := 3) (b := k) z (by omega)))
          have e255 : b255 (T (tks T n a + k)) = T (tks T n a + k) := bi (of_decide_eq_true yd).1
          rw [if_pos (by omega), e255, f15 (by omega), ← nI_succ, show (10 : Int32) * nI (dval T (tks T n a) k) = nI (dval T (tks T n a) k) * 10 from Int32.mul_comm _ _, dval_nI yd]
          refine ih (k + 1) (by omega) _ _ (mf_tr r (mf_tr (mf_pi (by omega)) (mf_pi (by omega)))) ?_ ?_ (fun _ => ?_) er' ek
          · rw [ai_ne (by omega), ai_ne (by omega)]; exact f13
          · rw [ai_eq, ai_ne (by omega), f11, ← nI_succ]; rfl
          · rw [ai_ne (by omega), ai_eq]
  -- blanks
  have key : ∀ m k : Nat, k + m = n → ∀ (hh : ax_H) (o1 o2 : Option Value), mf (fun k => 11 ≤ k ∧ k ≤ 15 ∧ k ≠ 12) h hh → ax_i hh 77 11 = nI k → rn isB T n k = tks T n a → A (0, [some (.ref 77), o1, o2], [], hh, 0, 0) := by
    intro m
    induction m with
    | zero =>
      intro k hk hh o1 o2 r f11 er
      have t1 := mf_mt r (by omega) t
      rw [rn_no (by omega)] at er
      have e0 : tkk T n a = 0 := by unfold tkk; rw [if_neg (by omega)]
      have eb : tkb T n a = k := by unfold tkb; rw [if_neg (by omega), ← er]
      refine vX10_token_0 hA ⟨t1.1.1, c_see t1 hn f11 (by omega) ⟨_, rfl, fun q => ?_, fun _ => ⟨t1.1.1, c_see t1 hn f11 (by omega) ⟨_, rfl, fun _ => ⟨t1.1.1, t1.1.1, t1.1.1, ?_⟩, fun q => ?_⟩⟩⟩⟩
      · rw [if_neg (by omega)] at q; exact absurd q (by decide)
      · have r2 : mf (fun k => 11 ≤ k ∧ k ≤ 15 ∧ k ≠ 12) h (ax_pi hh 77 13 (ax_i hh 77 11)) := mf_tr r (mf_pi (by omega))
        have t2 := mf_mt r2 (by omega) t
        refine c_see t2 hn (by rw [ai_ne (by omega)]; exact f11) (by omega) ⟨_, rfl, t2.1.1, fun q => ?_, fun _ => ⟨t2.1.1, ?_⟩⟩
        · rw [if_neg (by omega)] at q; exact absurd q (by decide)
        · refine hq _ (mf_tr r2 (mf_tr mf_pl (mf_pi (by omega)))) ⟨?_, ?_, by rw [ai_eq, e0]; rfl, fun z => by omega, fun z => by omega⟩
          · rw [ai_ne (by omega), ai_pl, ai_eq, f11, er]
          · rw [ai_ne (by omega), ai_pl, ai_ne (by omega), f11, eb]
      · rw [if_neg (by omega)] at q; exact absurd q (by decide)
    | succ m ih =>
      intro k hk hh o1 o2 r f11 er
      have t1 := mf_mt r (by omega) t
      have hb := hT k (by omega)
      obtain ⟨b0, b10, b32, b59, bl, bd, bi⟩ := b8 hb
      have again : isB (T k) = true → A (0, [some (.ref 77), o1, o2], [], ax_pi hh 77 11 (ax_i hh 77 11 + 1), 0, 0) := fun b => ih (k + 1) (by omega) _ o1 o2 (mf_tr r (mf_pi (by omega))) (by rw [ai_eq, f11, ← nI_succ]) (by rw [← er, rn_go (by omega) b])
      refine vX10_token_0 hA ⟨t1.1.1, c_see t1 hn f11 (by omega) ⟨_, rfl, fun q => ⟨rfl, t1.1.1, t1.1.1, ?_⟩, fun q => ⟨t1.1.1, c_see t1 hn f11 (by omega) ⟨_, rfl, fun q2 => ⟨t1.1.1, t1.1.1, t1.1.1, ?_⟩, fun q2 => ⟨rfl, t1.1.1, t1.1.1, ?_⟩⟩⟩⟩⟩
      · rw [if_pos (by omega)] at q
        exact again (decide_eq_true (Or.inl (b10.mp q)))
      · rw [if_pos (by omega)] at q q2
        have nb : ¬ (k < n ∧ isB (T k) = true) := fun z => (of_decide_eq_true z.2).elim (fun w => q (b10.mpr w)) (fun w => q2 (b32.mpr w))
        rw [rn_no nb] at er
        have hs : tks T n a < n := by omega
        have r2 : mf (fun k => 11 ≤ k ∧ k ≤ 15 ∧ k ≠ 12) h (ax_pi hh 77 13 (ax_i hh 77 11)) := mf_tr r (mf_pi (by omega))
        have t2 := mf_mt r2 (by omega) t
        refine c_see t2 hn (by rw [ai_ne (by omega)]; exact f11) (by omega) ⟨_, rfl, t2.1.1, ?_⟩
        rw [if_pos (by omega)]
        have r3 : mf (fun k => 11 ≤ k ∧ k ≤ 15 ∧ k ≠ 12) h (ax_pl (ax_pi hh 77 13 (ax_i hh 77 11)) 77 16 0) := mf_tr r2 mf_pl
        have t3 := mf_mt r3 (by omega) t
        have g13 : ax_i (ax_pl (ax_pi hh 77 13 (ax_i hh 77 11)) 77 16 0) 77 13 = nI (tks T n a) := by rw [ai_pl, ai_eq, f11, er]
        have g11 : ax_i (ax_pl (ax_pi hh 77 13 (ax_i hh 77 11)) 77 16 0) 77 11 = nI k := by rw [ai_pl, ai_ne (by omega)]; exact f11
        have g16 : ax_l (ax_pl (ax_pi hh 77 13 (ax_i hh 77 11)) 77 16 0) 77 16 = 0 := by rw [al_pl, if_pos ⟨rfl, rfl⟩]
        revert r3 t3 g13 g11 g16
        generalize ax_pl (ax_pi hh 77 13 (ax_i hh 77 11)) 77 16 0 = h3
        intro r3 t3 g13 g11 g16
        refine ⟨fun _ => c_min ⟨_, rfl, fun q3 => ?_, fun q3 => ?_⟩, fun z => absurd b0 z⟩
        · have nl : isL (T k) = false := decide_eq_false (fun z => of_decide_eq_false (b2i_0.mp q3) (bl.mpr z))
          refine c_min ⟨_, rfl, fun q4 => ⟨rfl, t3.1.1, t3.1.1, ?_⟩, fun q4 => ⟨t3.1.1, ?_⟩⟩
          · have nd : isD (T k) = false := decide_eq_false (fun z => of_decide_eq_false (b2i_0.mp q4) (bd.mpr z))
            have eb : tkb T n a = k + 1 := by unfold tkb; rw [if_pos hs, ← er, nl, nd]; rfl
            refine ⟨fun q5 => ⟨t3.1.1, ?_⟩, fun q5 => ⟨t3.1.1, ?_⟩⟩
            · have ek : tkk T n a = 4 := by unfold tkk; rw [if_pos hs, ← er, nl, nd, if_neg (fun w => q5 (b59.mpr w))]; rfl
              refine hq _ (mf_tr r3 (mf_tr (mf_pi (by omega)) (mf_pi (by omega)))) ⟨by rw [ai_ne (by omega), ai_ne (by omega)]; exact g13, ?_, by rw [ai_eq, ek]; rfl, fun z => by omega, fun z => by omega⟩
              rw [ai_ne (by omega), ai_eq, g11, eb, ← nI_succ]
            · have ek : tkk T n a = 3 := by unfold tkk; rw [if_pos hs, ← er, nl, nd, if_pos (b59.mp q5)]; rfl
              refine hq _ (mf_tr r3 (mf_tr (mf_pi (by omega)) (mf_pi (by omega)))) ⟨by rw [ai_ne (by omega), ai_ne (by omega)]; exact g13, ?_, by rw [ai_eq, ek]; rfl, fun z => by omega, fun z => by omega⟩
              rw [ai_ne (by omega), ai_eq, g11, eb, ← nI_succ]
          · have yd : isD (T k) = true := decide_eq_true (bd.mp (of_decide_eq_true (b2i_n0.mp q4)))
            have eb : tkb T n a = rn isD T n (tks T n a) := by unfold tkb; rw [if_pos hs, ← er, nl, yd]; rfl
            have ek : tkk T n a = (if tkb T n a - tks T n a ≤ 3 then 2 else 4) := by rw [eb]; unfold tkk; rw [if_pos hs, ← er, nl, yd]; rfl
            refine digs (n - tks T n a) 0 (by omega) _ _ (mf_tr r3 (mf_pi (by omega))) (by rw [ai_ne (by omega)]; exact g13) (by rw [ai_ne (by omega), g11, er]; rfl) (fun _ => ai_eq) eb.symm ek
        · have yl : isL (T k) = true := decide_eq_true (bl.mp (of_decide_eq_true (b2i_n0.mp q3)))
          have eb : tkb T n a = rn isL T n (tks T n a) := by unfold tkb; rw [if_pos hs, ← er, if_pos yl]
          have ek : tkk T n a = 1 := by unfold tkk; rw [if_pos hs, ← er, if_pos yl]
          exact lets (n - tks T n a) 0 (by omega) _ _ r3 g13 (by rw [g11, er]; rfl) (fun _ => g16) (fun j hj => absurd hj (Nat.not_lt_zero j)) eb.symm ek
      · rw [if_pos (by omega)] at q2
        exact again (decide_eq_true (Or.inr (b32.mp q2)))
  exact key (n - a) a (by omega) h _ _ mf_rf e11 rfl
end
end

section
section
variable {g : ax_G} {Ret : Option Value → ax_H → Prop} {h : ax_H} {T : Nat → Int32} {n a s : Nat} {st : lS}
/-! words, told apart by their packed bytes -/
def wN (i : Nat) : Nat := pkF (fun j => ((ax_sb.getD i []).getD j 0).toInt.toNat) (ax_sl.getD i 0)
def wL (i : Nat) : Int64 := Int64.ofNat (wN i)
theorem wN_bd : ∀ i, i < 14 → 0 < wN i ∧ wN i < 2 ^ 63 := by decide +kernel
theorem sb_bd : ∀ i, i < 14 → ∀ j, j < ax_sl.getD i 0 → 1 ≤ ((ax_sb.getD i []).getD j 0).toInt.toNat ∧ ((ax_sb.getD i []).getD j 0).toInt.toNat < 256 ∧ (ax_sb.getD i []).getD j 0 = nI ((ax_sb.getD i []).getD j 0).toInt.toNat := by decide +kernel
theorem wL_ne : ∀ i, i < 14 → ∀ j, j < 14 → i ≠ j → wL i ≠ wL j := by decide +kernel
def mw (T : Nat → Int32) (n a : Nat) : Int64 := if tkk T n a = 1 then mwd T n a else 0
theorem tk1 (h1 : tkk T n a = 1) : tks T n a < n ∧ isL (T (tks T n a)) = true ∧ tkb T n a = rn isL T n (tks T n a) := by
  unfold tkk at h1
  by_cases hs : tks T n a < n
  · rw [if_pos hs] at h1
    by_cases l : isL (T (tks T n a)) = true
    · exact ⟨hs, l, by unfold tkb; rw [if_pos hs, if_pos l]⟩
    · rw [if_neg l] at h1
      split at h1
      · split at h1 <;> cases h1
      · split at h1 <;> cases h1
  · rw [if_neg hs] at h1; cases h1
theorem oL_inj {x y : Nat} (hx : x < 2 ^ 63) (hy : y < 2 ^ 63) (e : Int64.ofNat x = Int64.ofNat y) : x = y := by
  have := congrArg Int64.toInt e
  rw [Int64.toInt_ofNat_of_lt hx, Int64.toInt_ofNat_of_lt hy] at this
  omega
theorem wL_0 {i : Nat} (hi : i < 14) : (0 : Int64) ≠ wL i := by
  intro e
  have e := congrArg Int64.toInt e
  have w := wN_bd i hi
  have e2 : (wL i).toInt = (wN i : Int) := Int64.toInt_ofNat_of_lt w.2
  rw [e2] at e
  have e3 : (0 : Int64).toInt = 0 := l_0
  rw [e3] at e
  omega
theorem pk_cong {F f : Nat → Nat} : ∀ {m : Nat}, (∀ j, j < m → F j = f j) → pkF F m = pkF f m
  | 0, _ => rfl
  | m + 1, h => by
    show pkF F m * 256 + F m = pkF f m * 256 + f m
    rw [pk_cong (fun j hj => h j (by omega)), h m (by omega)]
theorem mw_t1 {i : Nat} (hi : i < 14) (h1 : tkk T n a = 1) (al : ∀ j, j < tkb T n a - tks T n a → isL (T (tks T n a + j)) = true) (e : mwd T n a = wL i) : tw T n a i = true := by
  unfold mwd at e
  by_cases z : tkb T n a - tks T n a ≤ 8
  · rw [if_pos z] at e
    have pb := (pkF_b (F := bN T (tks T n a)) z (fun j hj => (isL_b (al j hj)).2.2)).1
    have e := oL_inj pb (wN_bd i hi).2 e
    obtain ⟨k1, k2⟩ := pkF_inj (fun j hj => by have := isL_b (al j hj); unfold bN; omega) (fun j hj => by have := sb_bd i hi j hj; omega) e
    refine decide_eq_true ⟨h1, k1, fun j hj => ?_⟩
    have e2 := k2 j (by omega)
    have e3 := (isL_b (al j (by omega))).1
    unfold bN at e2
    rw [e2] at e3
    rw [e3, ← (sb_bd i hi j hj).2.2]
  · rw [if_neg z] at e; exact absurd e (wL_0 hi)
theorem mw_t2 {i : Nat} (hi : i < 14) (e : tw T n a i = true) : mwd T n a = wL i := by
  obtain ⟨-, k1, k2⟩ := of_decide_eq_true e
  have hl := sl_bd i hi
  unfold mwd
  rw [if_pos (by omega), k1]
  unfold wL wN
  rw [pk_cong (F := bN T (tks T n a)) (fun j hj => by unfold bN; rw [k2 j hj])]
theorem mw_tw {i : Nat} (hi : i < 14) : mw T n a = wL i ↔ tw T n a i = true := by
  unfold mw
  by_cases h1 : tkk T n a = 1
  · rw [if_pos h1]
    obtain ⟨t1, t2, t3⟩ := tk1 h1
    exact ⟨mw_t1 hi h1 (fun j hj => rn_P (P := isL) (T := T) (n := n) (a := tks T n a) (j := tks T n a + j) (by omega) (by omega) (by omega)), mw_t2 hi⟩
  · rw [if_neg h1]
    exact ⟨fun e => absurd e (wL_0 hi), fun e => absurd (of_decide_eq_true e).1 h1⟩
theorem lg_0 {x y : Int64} : lg_cmp x y = 0 ↔ x = y := by
  constructor
  · intro e
    unfold lg_cmp at e
    split at e
    · cases e
    · split at e
      · assumption
      · cases e
  · intro e; rw [e]; unfold lg_cmp; simp
theorem vb_w {v : Nat} (e : vb T n s a = some v) : v < 11 ∧ lvs v = s ∧ mw T n a = wL (v + 3) := by
  obtain ⟨-, h2, h3, h4⟩ := vbr_some e
  exact ⟨by omega, h3, (mw_tw (by omega)).mpr h4⟩
theorem vb_nw (e : vb T n s a = none) {w : Nat} (hw : w < 11) (hs : lvs w = s) : mw T n a ≠ wL (w + 3) := fun q => by
  have := vbr_none e w (Nat.zero_le _) (by omega) hs
  rw [(mw_tw (by omega)).mp q] at this
  cases this
theorem vb_of {v : Nat} (hv : v < 11) (e : mw T n a = wL (v + 3)) (hs : lvs v = s) : vb T n s a = some v := by
  cases ev : vb T n s a with
  | none => exact absurd e (vb_nw ev hv hs)
  | some w =>
    obtain ⟨w1, w2, w3⟩ := vb_w ev
    by_cases z : w = v
    · rw [z]
    · exact absurd (w3.symm.trans e) (wL_ne (w + 3) (by omega) (v + 3) (by omega) (by omega))
/-! faults of the reference -/
def lp_at (h : ax_H) (fp : Nat × Nat) : Prop := ax_i h 77 18 = nI fp.1 ∧ (fp.1 ≠ 0 → ax_i h 77 19 = nI fp.2)
theorem nt_ne {fp : Nat × Nat} {b : Bool} {w q : Nat} (hf : fp.1 ≠ 0) : nt fp b w q = fp := if_neg (fun z => hf z.1)
theorem nt_f {fp : Nat × Nat} {w q : Nat} : nt fp false w q = fp := if_neg (fun z => absurd z.2 (by decide))
theorem c_later {fp : Nat × Nat} {w q : Nat} (m : (ax_s h 77).1 = 10) (f : lp_at h fp) (fl : fp.1 ≤ 4) (hw : w ≠ 0) (hq31 : q < 2 ^ 31) (pl : fp.1 ≠ 0 → fp.2 < q) (hq : ∀ h', mf (fun k => k = 18 ∨ k = 19) h h' → lp_at h' (nt fp true w q) → Ret none h') : mX10_later g [.ref 77, .int (nI w), .int (nI q)] h Ret := by
  refine eX10_later ⟨m, fun z => ⟨m, m, ?_⟩, fun z => ⟨m, fun y => ?_, fun y => ⟨m, fun x => ?_, fun x => ?_⟩⟩⟩
  · have z0 : fp.1 = 0 := (nI_eq (b := 0) (by omega) (by decide)).mp (by rw [← f.1]; exact z)
    refine hq _ (mf_tr (mf_pi (Or.inl rfl)) (mf_pi (Or.inr rfl))) ?_
    unfold nt
    rw [if_pos ⟨z0, rfl⟩]
    exact ⟨by rw [ai_ne (by omega), ai_eq], fun _ => ai_eq⟩
  · have z0 : fp.1 ≠ 0 := fun w => z (by rw [f.1, w]; rfl)
    rw [f.2 z0] at y
    have := pl z0
    exact absurd y (nI_nlt (by omega) (by omega))
  · have z0 : fp.1 ≠ 0 := fun w => z (by rw [f.1, w]; rfl)
    exact hq h mf_rf (by rw [nt_ne z0]; exact f)
  · have z0 : fp.1 ≠ 0 := fun w => z (by rw [f.1, w]; rfl)
    rw [f.2 z0] at x
    have := pl z0
    have := (nI_eq (by omega) (by omega)).mp x
    omega
/-- what stays while the reference reads a line: all but tokens (11, 13 .. 15), its reading (89), and J -/
def mg (J : Nat → Prop) (h h' : ax_H) : Prop := ax_same (fun b => b = 77 ∨ b = 89) h h' ∧ ∀ k, ¬ (11 ≤ k ∧ k ≤ 15 ∧ k ≠ 12) → ¬ J k → ax_i h' 77 k = ax_i h 77 k
theorem mg_rf {J : Nat → Prop} : mg J h h := ⟨sm_rf, fun _ _ _ => rfl⟩
theorem mg_tr {J : Nat → Prop} {h1 h2 : ax_H} (x : mg J h h1) (y : mg J h1 h2) : mg J h h2 := ⟨sm_tr x.1 y.1, fun k hk hj => (y.2 k hk hj).trans (x.2 k hk hj)⟩
theorem mg_of {J J' : Nat → Prop} {h1 : ax_H} (x : mf J h h1) (i : ∀ k, J k → (11 ≤ k ∧ k ≤ 15 ∧ k ≠ 12) ∨ J' k) : mg J' h h1 := ⟨sm_mono x.1 (fun b hb => Or.inl hb), fun k hk hj => x.2 k (fun q => (i k q).elim hk hj)⟩
theorem mg_89 {J : Nat → Prop} {k : Nat} {v : Int32} : mg J h (ax_pi h 89 k v) := ⟨sm_pi (Or.inr rfl), fun j _ _ => ai_ne (Or.inl (by decide))⟩
theorem mg_mono {J J' : Nat → Prop} {h1 : ax_H} (x : mg J h h1) (i : ∀ k, J k → J' k) : mg J' h h1 := ⟨x.1, fun k hk hj => x.2 k hk (fun q => hj (i k q))⟩
theorem mg_mt {J : Nat → Prop} {h1 : ax_H} (x : mg J h h1) (i : ¬ J 12) (t : mt_at h T n) : mt_at h1 T n := ⟨mo_st_same x.1 t.1, fun j hj => by rw [(x.1.2.2.2 78 (by omega)).1]; exact t.2.1 j hj, by rw [x.2 12 (by omega) i]; exact t.2.2⟩
theorem mkd_3 {k : Nat} (hk : k ≤ 4) : nI (mkd k) = 3 ↔ k = 2 := by
  rcases (by omega : k = 0 ∨ k = 1 ∨ k = 2 ∨ k = 3 ∨ k = 4) with rfl | rfl | rfl | rfl | rfl <;> decide
theorem mkd_2 {k : Nat} (hk : k ≤ 4) : nI (mkd k) = 2 ↔ k = 1 := by
  rcases (by omega : k = 0 ∨ k = 1 ∨ k = 2 ∨ k = 3 ∨ k = 4) with rfl | rfl | rfl | rfl | rfl <;> decide
theorem mkd_4 {k : Nat} (hk : k ≤ 4) : nI (mkd k) = 4 ↔ k = 3 := by
  rcases (by omega : k = 0 ∨ k = 1 ∨ k = 2 ∨ k = 3 ∨ k = 4) with rfl | rfl | rfl | rfl | rfl <;> decide
theorem mkd_0 {k : Nat} (hk : k ≤ 4) : nI (mkd k) = 0 ↔ k = 0 := by
  rcases (by omega : k = 0 ∨ k = 1 ∨ k = 2 ∨ k = 3 ∨ k = 4) with rfl | rfl | rfl | rfl | rfl <;> decide
theorem tkk_le : tkk T n a ≤ 4 := by
  unfold tkk
  repeat' split
  all_goals decide
theorem c_mfails (m : (ax_s h 77).1 = 10) (hq : ∀ h', mf (fun k => k = 17) h h' → ax_i h' 77 17 = ax_i h 77 13 → Ret (some (.int 0)) h') : mX10_fails g [.ref 77] h Ret := eX10_fails ⟨m, m, Or.inl rfl, hq _ (mf_pi rfl) ai_eq⟩
/-- token() from the token at place b to the next -/
theorem c_mnext {b : Nat} (t : mt_at h T n) (hT : tyb T) (hn : n ≤ 600) (hb : b ≤ n) (k : mk_at h T n b) (hq : ∀ h', mf (fun k => 11 ≤ k ∧ k ≤ 15 ∧ k ≠ 12) h h' → mk_at h' T n (tkb T n b) → Ret none h') : mX10_token g [.ref 77] h Ret := c_mtoken t hT hn k.2.1 (tk_bd (T := T) hb).2.2.1 hq
theorem c_take2 {b k LO HI : Nat} {fp : Nat × Nat} (t : mt_at h T n) (hT : tyb T) (hn : n ≤ 600) (hb : b ≤ n) (kk : mk_at h T n b) (f : lp_at h fp) (fl : fp.1 ≤ 4) (pl : fp.1 ≠ 0 → fp.2 < tks T n b) (hk : k < 3) (hL : LO < 2 ^ 31) (hH : HI < 2 ^ 31)
    (h0 : tkk T n b ≠ 2 → ∀ h', mf (fun k => k = 17) h h' → ax_i h' 77 17 = nI (tks T n b) → Ret (some (.int 0)) h')
    (h1 : tkk T n b = 2 → ∀ h', mg (fun k => k = 18 ∨ k = 19 ∨ k = 24) h h' → (∀ j, ax_i h' 89 j = if j = k then nI (tkn T n b) else ax_i h 89 j) → mk_at h' T n (tkb T n b) → lp_at h' (nt fp (decide (tkn T n b < LO ∨ HI < tkn T n b)) 2 (tks T n b)) → ax_i h' 77 24 = (if tkn T n b < LO ∨ HI < tkn T n b then 0 else ax_i h 77 24) → Ret (some (.int 1)) h') : mX10_take g [.ref 77, .int (nI k), .int (nI LO), .int (nI HI)] h Ret := by
  obtain ⟨r21, s21⟩ : ax_r h 77 21 = some 89 ∧ ax_s h 89 = (11, 3) := t.1.2 11 _ rfl
  obtain ⟨b1, b2, b3, b4⟩ := tk_bd (T := T) hb
  refine eX10_take ⟨t.1.1, fun q => ⟨t.1.1, 89, r21, t.1.1, sh_k s21, by rw [s21]; exact vp_in_nI hk (by decide), t.1.1, ?_⟩, fun q => ⟨t.1.1, c_mfails t.1.1 (fun h' r' e' => ⟨_, rfl, Or.inl rfl, ?_⟩)⟩⟩
  · have e2 : tkk T n b = 2 := (mkd_3 tkk_le).mp (by rw [← kk.2.2.1]; exact q)
    have ex := kk.2.2.2.1 e2
    have xb := tkn_le hb e2
    rw [nI_clamp (by omega), ai_ne (by omega), ex]
    have r1 : mg (fun k => k = 18 ∨ k = 19 ∨ k = 24) h (ax_pi h 89 k (nI (tkn T n b))) := mg_89
    have t1 := mg_mt r1 (by omega) t
    have e89 : ∀ j, ax_i (ax_pi h 89 k (nI (tkn T n b))) 89 j = if j = k then nI (tkn T n b) else ax_i h 89 j := fun j => by
      by_cases e : j = k
      · rw [if_pos e, e, ai_eq]
      · rw [if_neg e, ai_ne (by omega)]
    have k1 : mk_at (ax_pi h 89 k (nI (tkn T n b))) T n b := ⟨by rw [ai_ne (by omega)]; exact kk.1, by rw [ai_ne (by omega)]; exact kk.2.1, by rw [ai_ne (by omega)]; exact kk.2.2.1, fun z => by rw [ai_ne (by omega)]; exact kk.2.2.2.1 z, fun z => kk.2.2.2.2 z⟩
    have f1 : lp_at (ax_pi h 89 k (nI (tkn T n b))) fp := ⟨by rw [ai_ne (by omega)]; exact f.1, fun z => by rw [ai_ne (by omega)]; exact f.2 z⟩
    have e24 : ax_i (ax_pi h 89 k (nI (tkn T n b))) 77 24 = ax_i h 77 24 := ai_ne (by omega)
    revert r1 t1 e89 k1 f1 e24
    generalize ax_pi h 89 k (nI (tkn T n b)) = h2
    intro r1 t1 e89 k1 f1 e24
    refine c_min ⟨_, rfl, fun q2 => ⟨t1.1.1, c_mnext t1 hT hn hb k1 (fun h3 r3 k3 => ⟨rfl, Or.inr rfl, ?_⟩)⟩, fun q2 => ⟨t1.1.1, t1.1.1, ?_⟩⟩
    · have q2 := of_decide_eq_true (b2i_n0.mp q2)
      have g1 := (nI_leI hL (by omega)).mp q2.1
      have g2 := (nI_leI (by omega) hH).mp q2.2
      have nb : ¬ (tkn T n b < LO ∨ HI < tkn T n b) := by omega
      rw [decide_eq_false nb, nt_f, if_neg nb] at h1
      refine h1 e2 h3 (mg_tr r1 (mg_of r3 (fun x hx => Or.inl hx))) (fun j => by rw [(r3.1.2.2.2 89 (by omega)).1]; exact e89 j) k3 ⟨by rw [r3.2 18 (by omega)]; exact f1.1, fun z => by rw [r3.2 19 (by omega)]; exact f1.2 z⟩ (by rw [r3.2 24 (by omega)]; exact e24)
    · have q2 := of_decide_eq_false (b2i_0.mp q2)
      have nb : tkn T n b < LO ∨ HI < tkn T n b := by
        rcases Nat.lt_or_ge (tkn T n b) LO with z | z
        · exact Or.inl z
        · rcases Nat.lt_or_ge HI (tkn T n b) with y | y
          · exact Or.inr y
          · exact absurd ⟨nI_le z (by omega), nI_le y hH⟩ q2
      rw [decide_eq_true nb, if_pos nb] at h1
      rw [k1.1]
      refine c_later (w := 2) (q := tks T n b) t1.1.1 f1 fl (by decide) (by omega) pl (fun h4 r4 f4 => ⟨rfl, Or.inl rfl, (mf_mt r4 (by omega) t1).1.1, (mf_mt r4 (by omega) t1).1.1, ?_⟩)
      have r5 : mf (fun k => k = 18 ∨ k = 19 ∨ k = 24) h2 (ax_pi h4 77 24 0) := mf_tr (mf_mono r4 (fun x hx => by omega)) (mf_pi (by omega))
      have t5 := mf_mt r5 (by omega) t1
      have k5 : mk_at (ax_pi h4 77 24 0) T n b := ⟨by rw [r5.2 13 (by omega)]; exact k1.1, by rw [r5.2 11 (by omega)]; exact k1.2.1, by rw [r5.2 14 (by omega)]; exact k1.2.2.1, fun z => by rw [r5.2 15 (by omega)]; exact k1.2.2.2.1 z, fun z => by omega⟩
      refine c_mnext t5 hT hn hb k5 (fun h6 r6 k6 => ⟨rfl, Or.inr rfl, ?_⟩)
      refine h1 e2 h6 (mg_tr r1 (mg_tr (mg_of r5 (fun x hx => Or.inr hx)) (mg_of r6 (fun x hx => Or.inl hx)))) (fun j => by rw [(r6.1.2.2.2 89 (by omega)).1, (r5.1.2.2.2 89 (by omega)).1]; exact e89 j) k6 ⟨by rw [r6.2 18 (by omega), ai_ne (by omega)]; exact f4.1, fun z => by rw [r6.2 19 (by omega), ai_ne (by omega)]; exact f4.2 z⟩ (by rw [r6.2 24 (by omega), ai_eq])
  · have ne2 : tkk T n b ≠ 2 := fun z => q (by rw [kk.2.2.1]; exact (mkd_3 tkk_le).mpr z)
    exact h0 ne2 h' r' (by rw [e']; exact kk.1)
end
end

section
section
variable {g : ax_G} {Ret : Option Value → ax_H → Prop} {h : ax_H} {T : Nat → Int32} {n a s v : Nat} {st : lS}
/-- a line up to its semicolon -/
def lpx (T : Nat → Int32) (n s a : Nat) : Nat ⊕ (Nat × Nat) := match vb T n s a with
  | none => .inl (tks T n a)
  | some v => match nf T n a (lnu v) 0 with
    | some i => .inl (tks T n (ps T n a i))
    | none => if v = 1 ∨ v = 2 then (match mdw T n (ps T n a (lnu v + 1)) with
        | none => .inl (tks T n (ps T n a (lnu v + 1)))
        | some m => .inr (v, m))
      else .inr (v, 0)
theorem lsx_lpx : lsx T n s a = match lpx T n s a with
    | .inl p => .inl p
    | .inr (v, md) => if tkk T n (ps T n a (l_m v)) = 3 then .inr (v, md) else .inl (tks T n (ps T n a (l_m v))) := by
  unfold lsx lpx
  cases vb T n s a with
  | none => rfl
  | some v =>
    dsimp only
    cases nf T n a (lnu v) 0 with
    | some i => rfl
    | none =>
      dsimp only
      by_cases z : v = 1 ∨ v = 2
      · rw [if_pos z, if_pos z]
        cases mdw T n (ps T n a (lnu v + 1)) with
        | none => rfl
        | some m =>
          dsimp only
          unfold l_m
          rw [if_pos z]
      · rw [if_neg z, if_neg z]
        dsimp only
        unfold l_m
        rw [if_neg z]
/-! what the reference has told -/
def fq_at (h : ax_H) (D : rD) : Prop := ax_i h 88 0 = nI (dH D) ∧ ax_i h 88 1 = nI (dP D) ∧ (∀ p, p < dP D → ax_i h 88 (2 + p) = dpu D p) ∧ (∀ k, k < 6 → ax_i h 88 (8 + k) = dwo D k) ∧ (∀ k, k < 6 → ax_i h 88 (14 + k) = dmo D k) ∧ (∀ p q, p < 6 → q < 12 → ax_i h 88 (20 + 12 * p + q) = dde D p q) ∧ ∀ p q, p < 6 → q < 12 → ax_i h 88 (92 + 12 * p + q) = dlo D p q
def tb_at (h : ax_H) (s : Nat) (st : lS) : Prop := (l_f st = 0 → ax_i h 77 22 = l_h st ∧ ax_i h 77 23 = l_o st ∧ (s = 0 → fq_at h (l_D st)) ∧ (1 ≤ s → rl_at h s (l_N st) (l_C st))) ∧ (l_f st ≠ 0 → (s = 0 → ∃ k, k ≤ 6 ∧ ax_i h 88 1 = nI k) ∧ (1 ≤ s → ∃ k, k ≤ lm s ∧ ax_i h 88 0 = nI k))
theorem tb_mg {J : Nat → Prop} {h1 : ax_H} (x : mg J h h1) (i : ¬ J 22 ∧ ¬ J 23) (t : tb_at h s st) : tb_at h1 s st := by
  have e88 : ∀ k, ax_i h1 88 k = ax_i h 88 k := (x.1.2.2.2 88 (by omega)).1
  unfold tb_at fq_at rl_at at *
  simp only [e88, x.2 22 (by omega) i.1, x.2 23 (by omega) i.2]
  exact t
theorem tb_n1 (h1s : 1 ≤ s) (t : tb_at h s st) : ∃ k, k ≤ lm s ∧ ax_i h 88 0 = nI k ∧ (l_f st = 0 → k = l_N st) := by
  by_cases z : l_f st = 0
  · obtain ⟨-, -, -, r⟩ := t.1 z
    exact ⟨l_N st, (r h1s).1, (r h1s).2.1, fun _ => rfl⟩
  · obtain ⟨k, h1, h2⟩ := (t.2 z).2 h1s
    exact ⟨k, h1, h2, fun w => absurd w z⟩
theorem tb_n0 (ok : okL 0 st) (t : tb_at h 0 st) : ∃ k, k ≤ 6 ∧ ax_i h 88 1 = nI k ∧ (l_f st = 0 → k = dP (l_D st)) := by
  by_cases z : l_f st = 0
  · obtain ⟨-, -, r, -⟩ := t.1 z
    exact ⟨dP (l_D st), ok.1.2.1, (r rfl).2.1, fun _ => rfl⟩
  · obtain ⟨k, h1, h2⟩ := (t.2 z).1 rfl
    exact ⟨k, h1, h2, fun w => absurd w z⟩
theorem c_full2 {cnt k most q : Nat} {fp : Nat × Nat} (m : mo_st h 77) (hc : cnt < 2) (hk : ax_i h 88 cnt = nI k) (km : k ≤ most) (mb : most ≤ 14) (f : lp_at h fp) (fl : fp.1 ≤ 4) (hq31 : q < 2 ^ 31) (pl : fp.1 ≠ 0 → fp.2 < q) (hq : ∀ h', mf (fun k => k = 18 ∨ k = 19) h h' → lp_at h' (nt fp (decide (k = most)) 3 q) → Ret none h') : mX10_full g [.ref 77, .int (nI cnt), .int (nI most), .int (nI q)] h Ret := by
  obtain ⟨r20, s20⟩ : ax_r h 77 20 = some 88 ∧ ax_s h 88 = (11, 164) := m.2 10 _ rfl
  refine eX10_full ⟨m.1, 88, r20, sh_k s20, by rw [s20]; exact vp_in_nI (by omega) (by decide), ?_⟩
  rw [nI_clamp (by omega), hk]
  refine ⟨fun z => hq h mf_rf ?_, fun z => ⟨m.1, ?_⟩⟩
  · rw [decide_eq_false (fun w => z (by rw [w])), nt_f]; exact f
  · have z := (nI_eq (by omega) (by omega)).mp z
    refine c_later (w := 3) m.1 f fl (by decide) hq31 pl (fun h' r' f' => ⟨rfl, hq h' r' ?_⟩)
    rw [decide_eq_true z]; exact f'
/-- the line is full, on both sides -/
theorem nt_too1 {k q0 : Nat} (h1s : 1 ≤ s) (hs : lvs v = s) (km : k ≤ lm s) (e : l_f st = 0 → k = l_N st) : nt (l_f st, l_p st) (decide (k = lm s)) 3 q0 = nt (l_f st, l_p st) (ltoo v st) 3 q0 := by
  by_cases z : l_f st = 0
  · have : ltoo v st = decide (k = lm s) := by
      unfold ltoo
      rw [if_neg (fun w => by rw [w] at hs; have : (0 : Nat) = s := hs; omega), hs, if_neg (by omega), ← e z]
      exact decide_eq_decide.mpr (by omega)
    rw [this]
  · rw [nt_ne z, nt_ne z]
theorem nt_too3 {k q0 : Nat} (km : k ≤ 6) (e : l_f st = 0 → k = dP (l_D st)) : nt (l_f st, l_p st) (decide (k = 6)) 3 q0 = nt (l_f st, l_p st) (ltoo 3 st) 3 q0 := by
  by_cases z : l_f st = 0
  · have : ltoo 3 st = decide (k = 6) := by
      unfold ltoo
      rw [if_pos rfl, ← e z]
      exact decide_eq_decide.mpr (by omega)
    rw [this]
  · rw [nt_ne z, nt_ne z]
def gdr (v : Nat) (x : Nat → Nat) : Nat → Bool
  | 0 => true
  | i + 1 => gdr v x i && !lbad v x i
theorem gdr_t {x : Nat → Nat} : ∀ {i : Nat}, gdr v x i = true → ∀ j, j < i → lbad v x j = false
  | 0, _ => fun j hj => absurd hj (Nat.not_lt_zero j)
  | i + 1, h => fun j hj => by
    have h : (gdr v x i && !lbad v x i) = true := h
    rw [Bool.and_eq_true] at h
    by_cases e : j = i
    · rw [e]; simpa using h.2
    · exact gdr_t h.1 j (by omega)
theorem gdr_o {x : Nat → Nat} : ∀ {i : Nat}, (∀ j, j < i → lbad v x j = false) → gdr v x i = true
  | 0, _ => rfl
  | i + 1, h => by
    show (gdr v x i && !lbad v x i) = true
    rw [gdr_o (fun j hj => h j (by omega)), h i (by omega)]; rfl
theorem tks_lt {i : Nat} (ha : a ≤ n) (hk : tkk T n (ps T n a i) ≠ 0) : tks T n (ps T n a i) < tks T n (ps T n a (i + 1)) := by
  obtain ⟨b1, b2, b3, b4⟩ := tk_bd (T := T) (ps_le (T := T) ha i).2
  obtain ⟨c1, -, -, -⟩ := tk_bd (T := T) (ps_le (T := T) ha (i + 1)).2
  have e : ps T n a (i + 1) = tkb T n (ps T n a i) := rfl
  have := b4 hk
  omega
/-- the i-th number of the line at place a is taken -/
theorem c_takeV {i LO HI : Nat} {fp : Nat × Nat} (t : mt_at h T n) (hT : tyb T) (hn : n ≤ 600) (ha : a ≤ n) (hv : v < 11) (hi : i < lnu v) (eL : LO = (if v = 7 ∧ i = 2 then l_x T n a 1 else llo v i)) (eH : HI = lhi v i) (kk : mk_at h T n (ps T n a (i + 1))) (nz : tkk T n (ps T n a i) ≠ 0) (f : lp_at h (lfp v (l_x T n a) (l_q T n a) fp i)) (fl : fp.1 ≤ 4) (pl : (lfp v (l_x T n a) (l_q T n a) fp i).1 ≠ 0 → (lfp v (l_x T n a) (l_q T n a) fp i).2 ≤ tks T n (ps T n a i)) (e24 : ax_i h 77 24 = b2i (gdr v (l_x T n a) i))
    (h0 : tkk T n (ps T n a (i + 1)) ≠ 2 → ∀ h', mf (fun k => k = 17) h h' → ax_i h' 77 17 = nI (tks T n (ps T n a (i + 1))) → Ret (some (.int 0)) h')
    (h1 : tkk T n (ps T n a (i + 1)) = 2 → ∀ h', mg (fun k => k = 18 ∨ k = 19 ∨ k = 24) h h' → (∀ j, ax_i h' 89 j = if j = i then nI (l_x T n a i) else ax_i h 89 j) → mk_at h' T n (ps T n a (i + 2)) → lp_at h' (lfp v (l_x T n a) (l_q T n a) fp (i + 1)) → ((lfp v (l_x T n a) (l_q T n a) fp (i + 1)).1 ≠ 0 → (lfp v (l_x T n a) (l_q T n a) fp (i + 1)).2 ≤ tks T n (ps T n a (i + 1))) → ax_i h' 77 24 = b2i (gdr v (l_x T n a) (i + 1)) → Ret (some (.int 1)) h') : mX10_take g [.ref 77, .int (nI i), .int (nI LO), .int (nI HI)] h Ret := by
  obtain ⟨-, n1, n3⟩ := tab_nu v hv
  obtain ⟨-, u2⟩ := tab_lo v hv i (by omega)
  obtain ⟨-, w2⟩ := tab_hi v hv i (by omega)
  have x1 := l_x_le (T := T) ha 1
  have hLO : LO < 2 ^ 31 := by rw [eL]; split <;> omega
  have lt := tks_lt (T := T) (i := i) ha nz
  refine c_take2 t hT hn (ps_le ha (i + 1)).2 kk f (lfp_le fl i) (fun z => Nat.lt_of_le_of_lt (pl z) lt) (by omega) hLO (by omega) h0 (fun e2 h' r' e89 k' f' e24' => ?_)
  have ex : tkn T n (ps T n a (i + 1)) = l_x T n a i := by unfold l_x; rw [if_pos e2]
  rw [ex] at e89 f' e24'
  have eb : decide (l_x T n a i < LO ∨ HI < l_x T n a i) = lbad v (l_x T n a) i := by
    unfold lbad
    rw [eL, eH]
    by_cases z : v = 7 ∧ i = 2
    · rw [if_pos z]
      obtain ⟨rfl, rfl⟩ := z
      exact decide_eq_decide.mpr (by have : llo 7 2 = 0 := rfl; omega)
    · rw [if_neg z]
      exact decide_eq_decide.mpr (by omega)
  rw [eb] at f'
  have f' : lp_at h' (lfp v (l_x T n a) (l_q T n a) fp (i + 1)) := f'
  refine h1 e2 h' r' e89 k' f' (fun z => ?_) ?_
  · have e : lfp v (l_x T n a) (l_q T n a) fp (i + 1) = nt (lfp v (l_x T n a) (l_q T n a) fp i) (lbad v (l_x T n a) i) 2 (l_q T n a i) := rfl
    rw [e] at z ⊢
    unfold nt at z ⊢
    split
    · exact Nat.le_refl _
    · rename_i y
      rw [if_neg y] at z
      have := pl z
      omega
  · rw [e24', e24]
    show _ = b2i (gdr v (l_x T n a) i && !lbad v (l_x T n a) i)
    by_cases z : l_x T n a i < LO ∨ HI < l_x T n a i
    · rw [if_pos z, ← eb, decide_eq_true z]; simp [b2i]
    · rw [if_neg z, ← eb, decide_eq_false z]; simp
/-- keep(): the line is kept, if it isn't full -/
theorem c_mkeep {k : Nat} (m : mo_st h 77) (h1s : 1 ≤ s) (h5s : s < 5) (ek : ax_i h 88 0 = nI k) (hk : k ≤ lm s) (hq : ∀ h', ax_same (fun b => b = 88) h h' → ((k = lm s ∧ ∀ j, ax_i h' 88 j = ax_i h 88 j) ∨ (k < lm s ∧ ax_i h' 88 0 = nI (k + 1) ∧ (∀ j, j < lw s → ax_i h' 88 (1 + lw s * k + j) = ax_i h 89 j) ∧ ∀ j, j ≠ 0 → ¬ (1 + lw s * k ≤ j ∧ j < 1 + lw s * k + lw s) → ax_i h' 88 j = ax_i h 88 j)) → Ret none h') : mX10_keep g [.ref 77, .int 1, .int (nI (lw s)), .int (nI (lm s))] h Ret := by
  have lb := lm_lw h1s h5s
  have i0 : vp_in (0 : Int32) 164 := vp_in_nI (n := 0) (N := 164) (by decide) (by decide)
  obtain ⟨r20, s20⟩ : ax_r h 77 20 = some 88 ∧ ax_s h 88 = (11, 164) := m.2 10 _ rfl
  refine uX10_keep (fun A hA => vX10_keep_0 hA ⟨m.1, 88, r20, sh_k s20, by rw [s20]; exact i0, ?_⟩)
  rw [ek]
  refine ⟨fun q => ?_, fun q => hq h sm_rf (Or.inl ⟨(nI_eq (by omega) (by omega)).mp q, fun _ => rfl⟩)⟩
  have kl : k < lm s := Nat.lt_of_le_of_ne hk (fun e => q (by rw [e]))
  have hlt : lw s * k + lw s ≤ 18 := by
    have : lw s * (k + 1) ≤ lw s * lm s := Nat.mul_le_mul_left _ kl
    rw [Nat.mul_succ, Nat.mul_comm (lw s) (lm s)] at this
    omega
  have key : ∀ m' i : Nat, i + m' = lw s → ∀ (hh : ax_H) (o3 : Option Value), ax_same (fun b => b = 88) h hh → (∀ j, j < i → ax_i hh 88 (1 + lw s * k + j) = ax_i h 89 j) → (∀ j, ¬ (1 + lw s * k ≤ j ∧ j < 1 + lw s * k + i) → ax_i hh 88 j = ax_i h 88 j) → A (18, [some (.ref 77), some (.int 1), some (.int (nI (lw s))), o3, some (.int (nI k)), some (.int (nI i))], [], hh, 0, 0) := by
    intro m'
    induction m' with
    | zero =>
      intro i hi hh o3 sm e1 e2
      have m1 := mo_st_same sm m
      obtain ⟨r20', s20'⟩ : ax_r hh 77 20 = some 88 ∧ ax_s hh 88 = (11, 164) := m1.2 10 _ rfl
      refine vX10_keep_18 hA ⟨fun _ => ⟨m1.1, 88, r20', ⟨rfl, rfl⟩, sh_k s20', by rw [s20']; exact i0, sh_k s20', by rw [s20']; exact i0, ?_⟩, fun q => absurd (nI_le (by omega) (by omega)) q⟩
      have e0 : ax_i hh 88 0 = nI k := by rw [e2 0 (by omega)]; exact ek
      rw [e0, ← nI_succ]
      refine hq _ (sm_tr sm (sm_pi rfl)) (Or.inr ⟨kl, ai_eq, fun j hj => ?_, fun j hj hr => ?_⟩)
      · rw [ai_ne (by omega)]; exact e1 j (by omega)
      · rw [ai_ne (by omega)]; exact e2 j (by omega)
    | succ m' ih =>
      intro i hi hh o3 sm e1 e2
      have m1 := mo_st_same sm m
      obtain ⟨r20', s20'⟩ : ax_r hh 77 20 = some 88 ∧ ax_s hh 88 = (11, 164) := m1.2 10 _ rfl
      obtain ⟨r21, s21⟩ : ax_r hh 77 21 = some 89 ∧ ax_s hh 89 = (11, 3) := m1.2 11 _ rfl
      have ei : (1 : Int32) + nI (lw s) * nI k + nI i = nI (1 + lw s * k + i) := by rw [show (1 : Int32) = nI 1 from rfl, pk_mul, nI_add, nI_add]
      refine vX10_keep_18 hA ⟨fun q => absurd q (nI_ge (by omega) (by omega)), fun _ => ⟨m1.1, 88, r20', m1.1, 89, r21, sh_k s21, by rw [s21]; exact vp_in_nI (by omega) (by decide), sh_k s20', by rw [ei, s20']; exact vp_in_nI (by omega) (by decide), ?_⟩⟩
      rw [ei, nI_clamp (by omega), nI_clamp (by omega), ← nI_succ, (sm.2.2.2 89 (by omega)).1]
      refine ih (i + 1) (by omega) _ o3 (sm_tr sm (sm_pi rfl)) (fun j hj => ?_) (fun j hj => ?_)
      · by_cases e : j = i
        · rw [e, ai_eq]
        · rw [ai_ne (by omega)]; exact e1 j (by omega)
      · rw [ai_ne (by omega)]; exact e2 j (by omega)
  exact key (lw s) 0 (by omega) h _ sm_rf (fun j hj => absurd hj (Nat.not_lt_zero j)) (fun j _ => rfl)
/-- a kept line is the told one -/
theorem tb_keep {h' : ax_H} {k md q0 : Nat} {x q : Nat → Nat} (h6 : 6 ≤ v) (hv : v < 11) (hs : lvs v = s) (t : tb_at h s st) (ek : ax_i h 88 0 = nI k) (hk : k ≤ lm s) (ef : l_f st = 0 → k = l_N st) (e77 : ∀ j, ax_i h' 77 j = ax_i h 77 j) (e89 : ∀ j, j < lw s → ax_i h 89 j = lval v x j) (c : (k = lm s ∧ ∀ j, ax_i h' 88 j = ax_i h 88 j) ∨ (k < lm s ∧ ax_i h' 88 0 = nI (k + 1) ∧ (∀ j, j < lw s → ax_i h' 88 (1 + lw s * k + j) = ax_i h 89 j) ∧ ∀ j, j ≠ 0 → ¬ (1 + lw s * k ≤ j ∧ j < 1 + lw s * k + lw s) → ax_i h' 88 j = ax_i h 88 j)) : tb_at h' s (l_line v x md q0 q st) := by
  obtain ⟨w1, w2, w3⟩ := lnu_lw v h6 hv
  rw [hs] at w2 w3
  have lb := lm_lw w2 w3
  unfold l_line
  by_cases z : (l_fp v x q0 q st).1 = 0
  · rw [if_pos z]
    obtain ⟨z1, z2, z3⟩ := l_fp_0 z
    have e : l_tell v x md st = l_add v x st := by
      match v, h6 with
      | n + 6, _ => rfl
    rw [e]
    have kN := ef z1
    have hN : l_N st < lm s := by
      unfold ltoo at z2
      rw [if_neg (by omega), hs, if_neg (by omega)] at z2
      have := of_decide_eq_false z2
      omega
    obtain ⟨y1, y2, -, y4⟩ := t.1 z1
    obtain ⟨n1, n2, n3⟩ := y4 w2
    refine ⟨fun _ => ⟨by rw [e77]; exact y1, by rw [e77]; exact y2, fun q => by omega, fun _ => ⟨hN, ?_, fun i j hi hj => ?_⟩⟩, fun q => absurd z1 q⟩
    · rcases c with ⟨c1, -⟩ | ⟨-, c2, -, -⟩
      · omega
      · rw [c2, kN]; rfl
    · rcases c with ⟨c1, -⟩ | ⟨-, -, c3, c4⟩
      · omega
      show _ = (if i = l_N st then lval v x j else l_C st i j)
      by_cases ei : i = l_N st
      · rw [if_pos ei, ei, ← kN, c3 j hj]; exact e89 j hj
      · have hi : i < l_N st + 1 := hi
        have : lw s * (i + 1) ≤ lw s * l_N st := Nat.mul_le_mul_left _ (by omega)
        rw [Nat.mul_succ] at this
        rw [if_neg ei, c4 _ (by omega) (by rw [kN]; omega)]
        exact n3 i j (by omega) hj
  · rw [if_neg z]
    refine ⟨fun w => absurd w z, fun _ => ⟨fun q => by omega, fun _ => ?_⟩⟩
    rcases c with ⟨c1, c2⟩ | ⟨c1, c2, -, -⟩
    · exact ⟨k, hk, by rw [c2]; exact ek⟩
    · exact ⟨k + 1, c1, c2⟩
end
end

section
section
variable {g : ax_G} {Ret : Option Value → ax_H → Prop} {h : ax_H} {T : Nat → Int32} {n a s v : Nat} {st : lS}
theorem nf_some {i : Nat} (h2 : tkk T n (ps T n a (i + 1)) ≠ 2) : ∀ (k j : Nat), j ≤ i → i < j + k → (∀ l, j ≤ l → l < i → tkk T n (ps T n a (l + 1)) = 2) → nf T n a k j = some (i + 1)
  | 0, j => fun h3 h4 => by omega
  | k + 1, j => fun h3 h4 h5 => by
    show (if tkk T n (ps T n a (j + 1)) = 2 then nf T n a k (j + 1) else some (j + 1)) = some (i + 1)
    by_cases e : j = i
    · subst e; rw [if_neg h2]
    · rw [if_pos (h5 j (Nat.le_refl _) (by omega))]
      exact nf_some h2 k (j + 1) (by omega) (by omega) (fun l h6 h7 => h5 l (by omega) h7)
theorem nf_none : ∀ (k j : Nat), (∀ l, j ≤ l → l < j + k → tkk T n (ps T n a (l + 1)) = 2) → nf T n a k j = none
  | 0, j => fun _ => rfl
  | k + 1, j => fun h5 => by
    show (if tkk T n (ps T n a (j + 1)) = 2 then nf T n a k (j + 1) else some (j + 1)) = none
    rw [if_pos (h5 j (Nat.le_refl _) (by omega))]
    exact nf_none k (j + 1) (fun l h6 h7 => h5 l (by omega) (by omega))
/-- what a line of the reference may change -/
def mF (h h' : ax_H) : Prop := ax_same (fun b => b = 77 ∨ b = 88 ∨ b = 89) h h' ∧ ax_i h' 77 12 = ax_i h 77 12
theorem mF_mt {h' : ax_H} (x : mF h h') (t : mt_at h T n) : mt_at h' T n := ⟨mo_st_same x.1 t.1, fun j hj => by rw [(x.1.2.2.2 78 (by omega)).1]; exact t.2.1 j hj, by rw [x.2]; exact t.2.2⟩
theorem mF_mg {J : Nat → Prop} {h' : ax_H} (x : mg J h h') (i : ¬ J 12) : mF h h' := ⟨sm_mono x.1 (fun b hb => by omega), x.2 12 (by omega) i⟩
theorem mF_tr {h1 h2 : ax_H} (x : mF h h1) (y : mF h1 h2) : mF h h2 := ⟨sm_tr x.1 y.1, y.2.trans x.2⟩
/-- where a line begins -/
def lb_at (h : ax_H) (T : Nat → Int32) (n a s : Nat) (st : lS) : Prop := mt_at h T n ∧ tyb T ∧ n ≤ 600 ∧ a ≤ n ∧ tkk T n a ≠ 0 ∧ mk_at h T n a ∧ tb_at h s st ∧ lp_at h (l_f st, l_p st) ∧ l_f st ≤ 4 ∧ (l_f st ≠ 0 → l_p st < tks T n a) ∧ ax_i h 77 24 = 1 ∧ okL s st
/-- how a line ends -/
def lbad_K (h : ax_H) (T : Nat → Int32) (n a s : Nat) (Ret : Option Value → ax_H → Prop) : Prop := ∀ p, lpx T n s a = .inl p → ∀ h', mF h h' → ax_i h' 77 17 = nI p → Ret (some (.int 0)) h'
def lok_K (h : ax_H) (T : Nat → Int32) (n a s : Nat) (st : lS) (Ret : Option Value → ax_H → Prop) : Prop := ∀ v md, lpx T n s a = .inr (v, md) → v < 11 → lvs v = s → md < 3 → ∀ h', mF h h' → mk_at h' T n (ps T n a (l_m v)) → tb_at h' s (l_line v (l_x T n a) md (tks T n a) (l_q T n a) st) → lp_at h' (l_f (l_line v (l_x T n a) md (tks T n a) (l_q T n a) st), l_p (l_line v (l_x T n a) md (tks T n a) (l_q T n a) st)) → (l_f (l_line v (l_x T n a) md (tks T n a) (l_q T n a) st) ≠ 0 → l_p (l_line v (l_x T n a) md (tks T n a) (l_q T n a) st) < tks T n (ps T n a (l_m v))) → Ret (some (.int 1)) h'
theorem l_line_fp {x : Nat → Nat} {md q0 : Nat} {q : Nat → Nat} : (l_f (l_line v x md q0 q st), l_p (l_line v x md q0 q st)) = l_fp v x q0 q st := by
  unfold l_line
  by_cases z : (l_fp v x q0 q st).1 = 0
  · rw [if_pos z, l_tell_f.1, l_tell_f.2]
    obtain ⟨a1, a2, -⟩ := lfp_0 z
    obtain ⟨-, -, b3⟩ := nt_0 (by decide) a1
    show _ = lfp v x q (nt (l_f st, l_p st) (ltoo v st) 3 q0) (lnu v)
    rw [a2, b3]
  · rw [if_neg z]; rfl
theorem lpx_nf {v i : Nat} (ev : vb T n s a = some v) (hi : i < lnu v) (hb : ∀ l, l < i → tkk T n (ps T n a (l + 1)) = 2) (h2 : tkk T n (ps T n a (i + 1)) ≠ 2) : lpx T n s a = .inl (tks T n (ps T n a (i + 1))) := by
  unfold lpx
  rw [ev]
  dsimp only
  rw [nf_some h2 (lnu v) 0 (Nat.zero_le _) (by omega) (fun l _ h7 => hb l h7)]
theorem lpx_no {v : Nat} (ev : vb T n s a = some v) (hb : ∀ l, l < lnu v → tkk T n (ps T n a (l + 1)) = 2) (nv : ¬ (v = 1 ∨ v = 2)) : lpx T n s a = .inr (v, 0) := by
  unfold lpx
  rw [ev]
  dsimp only
  rw [nf_none (lnu v) 0 (fun l _ h7 => hb l (by omega))]
  dsimp only
  rw [if_neg nv]
/-- a line of lines ends: keep() -/
theorem c_keepV {hh : ax_H} (L : lb_at h T n a s st) (h6 : 6 ≤ v) (ev : vb T n s a = some v) (hb : ∀ l, l < lnu v → tkk T n (ps T n a (l + 1)) = 2) (r : mg (fun k => k = 18 ∨ k = 19 ∨ k = 24) h hh) (e89 : ∀ j, j < lw s → ax_i hh 89 j = lval v (l_x T n a) j) (kk : mk_at hh T n (ps T n a (lnu v + 1))) (f : lp_at hh (l_fp v (l_x T n a) (tks T n a) (l_q T n a) st)) (pl : (l_fp v (l_x T n a) (tks T n a) (l_q T n a) st).1 ≠ 0 → (l_fp v (l_x T n a) (tks T n a) (l_q T n a) st).2 ≤ tks T n (ps T n a (lnu v))) (hok : lok_K h T n a s st Ret) : mX10_keep g [.ref 77, .int 1, .int (nI (lw s)), .int (nI (lm s))] hh (fun v9 h8 => v9 = none ∧ ((1 : Int32) = 0 ∨ (1 : Int32) = 1) ∧ Ret (some (.int 1)) h8) := by
  obtain ⟨t, hT, hn, ha, nz, -, tb, -, fl, -, -, ok⟩ := L
  obtain ⟨hv, hs, -⟩ := vb_w ev
  obtain ⟨w1, w2, w3⟩ := lnu_lw v h6 hv
  rw [hs] at w2 w3
  have t1 := mg_mt r (by omega) t
  have tb1 := tb_mg r (by omega) tb
  obtain ⟨k, k1, k2, k3⟩ := tb_n1 w2 tb1
  refine c_mkeep t1.1 w2 w3 k2 k1 (fun h' sm c => ⟨rfl, Or.inr rfl, ?_⟩)
  have e77 : ∀ j, ax_i h' 77 j = ax_i hh 77 j := (sm.2.2.2 77 (by omega)).1
  have l77 : ∀ j, ax_l h' 77 j = ax_l hh 77 j := (sm.2.2.2 77 (by omega)).2
  have em : l_m v = lnu v + 1 := by unfold l_m; rw [if_neg (by omega)]
  have nzc : tkk T n (ps T n a (lnu v)) ≠ 0 := by
    obtain ⟨-, n1, -⟩ := tab_nu v hv
    have := hb (lnu v - 1) (by omega)
    rw [show lnu v - 1 + 1 = lnu v by omega] at this
    omega
  refine hok v 0 (lpx_no ev hb (by omega)) hv hs (by decide) h' (mF_tr (mF_mg r (by omega)) ⟨sm_mono sm (fun b hb => by omega), e77 12⟩) ?_ (tb_keep h6 hv hs tb1 k2 k1 k3 e77 e89 c) ?_ ?_
  · rw [em]
    exact ⟨by rw [e77]; exact kk.1, by rw [e77]; exact kk.2.1, by rw [e77]; exact kk.2.2.1, fun z => by rw [e77]; exact kk.2.2.2.1 z, fun z => by rw [l77]; exact kk.2.2.2.2 z⟩
  · rw [l_line_fp]
    exact ⟨by rw [e77]; exact f.1, fun z => by rw [e77]; exact f.2 z⟩
  · intro z
    have e := l_line_fp (v := v) (st := st) (x := l_x T n a) (md := 0) (q0 := tks T n a) (q := l_q T n a)
    have e1 : l_f (l_line v (l_x T n a) 0 (tks T n a) (l_q T n a) st) = (l_fp v (l_x T n a) (tks T n a) (l_q T n a) st).1 := congrArg Prod.fst e
    have e2 : l_p (l_line v (l_x T n a) 0 (tks T n a) (l_q T n a) st) = (l_fp v (l_x T n a) (tks T n a) (l_q T n a) st).2 := congrArg Prod.snd e
    rw [e1] at z
    rw [e2, em]
    exact Nat.lt_of_le_of_lt (pl z) (tks_lt ha nzc)
/-- a line of lines begins: full(), token() -/
theorem c_fullV {K : ax_H → Prop} (L : lb_at h T n a s st) (h6 : 6 ≤ v) (ev : vb T n s a = some v) (go : ∀ h', mg (fun k => k = 18 ∨ k = 19 ∨ k = 24) h h' → mt_at h' T n → mk_at h' T n (ps T n a 1) → lp_at h' (nt (l_f st, l_p st) (ltoo v st) 3 (tks T n a)) → ((nt (l_f st, l_p st) (ltoo v st) 3 (tks T n a)).1 ≠ 0 → (nt (l_f st, l_p st) (ltoo v st) 3 (tks T n a)).2 ≤ tks T n a) → ax_i h' 77 24 = 1 → K h') : mX10_full g [.ref 77, .int 0, .int (nI (lm s)), .int (nI (tks T n a))] h (fun v2 h1 => v2 = none ∧ (ax_s h1 77).1 = 10 ∧ mX10_token g [.ref 77] h1 (fun v4 h3 => v4 = none ∧ (ax_s h3 77).1 = 10 ∧ K h3)) := by
  obtain ⟨t, hT, hn, ha, nz, kk, tb, f, fl, pl, e24, ok⟩ := L
  obtain ⟨hv, hs, -⟩ := vb_w ev
  obtain ⟨w1, w2, w3⟩ := lnu_lw v h6 hv
  rw [hs] at w2 w3
  have lb := lm_lw w2 w3
  obtain ⟨k, k1, k2, k3⟩ := tb_n1 w2 tb
  obtain ⟨b1, b2, b3, -⟩ := tk_bd (T := T) ha
  refine c_full2 (cnt := 0) t.1 (by decide) k2 k1 (by omega) f fl (by omega) pl (fun h1 r1 f1 => ⟨rfl, ?_⟩)
  rw [nt_too1 w2 hs k1 k3] at f1
  have t1 := mf_mt r1 (by omega) t
  refine ⟨t1.1.1, c_mtoken (a := tkb T n a) t1 hT hn (by rw [r1.2 11 (by omega)]; exact kk.2.1) b3 (fun h3 r3 k3' => ⟨rfl, (mf_mt r3 (by omega) t1).1.1, go h3 (mg_tr (mg_of r1 (fun x hx => Or.inr (by omega))) (mg_of r3 (fun x hx => Or.inl hx))) (mf_mt r3 (by omega) t1) k3' ⟨by rw [r3.2 18 (by omega)]; exact f1.1, fun z => by rw [r3.2 19 (by omega)]; exact f1.2 z⟩ (fun z => ?_) (by rw [r3.2 24 (by omega), r1.2 24 (by omega)]; exact e24)⟩)⟩
  unfold nt at z ⊢
  split
  · exact Nat.le_refl _
  · rename_i y
    rw [if_neg y] at z
    exact Nat.le_of_lt (pl z)
end
end

section
section
variable {g : ax_G} {Ret : Option Value → ax_H → Prop} {h : ax_H} {T : Nat → Int32} {n a s v : Nat} {st : lS}
theorem wL_c : wL 0 = 500219601765 ∧ wL 1 = 1869505381 ∧ wL 2 = 129116991876709 ∧ wL 3 = 448546566771 ∧ wL 4 = 1734437230 ∧ wL 5 = 1819243379 ∧ wL 6 = 123581014175598 ∧ wL 7 = 1685022067 ∧ wL 8 = 7106420 ∧ wL 9 = 495875089259 ∧ wL 10 = 111542219664996 ∧ wL 11 = 500135192942 ∧ wL 12 = 6840691 ∧ wL 13 = 1870095731 := by decide +kernel
/-- no verb of the sort -/
theorem c_noVerb (L : lb_at h T n a s st) (ev : vb T n s a = none) (hbad : lbad_K h T n a s Ret) : mX10_fails g [.ref 77] h (fun v11 h10 => ∃ r12 : Int32, v11 = some (.int r12) ∧ (r12 = 0 ∨ r12 = 1) ∧ Ret (some (.int r12)) h10) := by
  obtain ⟨t, hT, hn, ha, nz, kk, -⟩ := L
  refine c_mfails t.1.1 (fun h' r' e' => ⟨_, rfl, Or.inl rfl, hbad _ (by unfold lpx; rw [ev]) h' (mF_mg (mg_of (J' := fun k => k = 17) r' (fun x hx => Or.inr hx)) (by omega)) ?_⟩)
  rw [e']; exact kk.1
/-- a number is wanting -/
theorem c_noNum {hh h' : ax_H} {i : Nat} (L : lb_at h T n a s st) (ev : vb T n s a = some v) (hi : i < lnu v) (hb : ∀ l, l < i → tkk T n (ps T n a (l + 1)) = 2) (hbad : lbad_K h T n a s Ret) (r : mF h hh) (z : tkk T n (ps T n a (i + 1)) ≠ 2) (r' : mf (fun k => k = 17) hh h') (e' : ax_i h' 77 17 = nI (tks T n (ps T n a (i + 1)))) : Ret (some (.int 0)) h' := hbad _ (lpx_nf ev hi hb z) h' (mF_tr r (mF_mg (mg_of (J' := fun k => k = 17) r' (fun x hx => Or.inr hx)) (by omega))) e'
theorem b2i_1 : (1 : Int32) = b2i true := rfl
theorem c_weekLine (L : lb_at h T n a 1 st) (hbad : lbad_K h T n a 1 Ret) (hok : lok_K h T n a 1 st Ret) : mX10_weekLine g [.ref 77, .long (mw T n a), .int (nI (tks T n a))] h Ret := by
  obtain ⟨t, hT, hn, ha, nz, kk, tb, f, fl, pl, e24, ok⟩ := id L
  refine eX10_weekLine ⟨fun q => ⟨t.1.1, ?_⟩, fun q => ⟨t.1.1, c_noVerb L ?_ hbad⟩⟩
  · have e := lg_0.mp q
    rw [← wL_c.2.2.2.2.2.2.2.2.2.1] at e
    have ev : vb T n 1 a = some 6 := vb_of (v := 6) (by decide) e rfl
    refine c_fullV (v := 6) L (by decide) ev (fun h3 r3 t3 k3 f3 p3 e3 => ?_)
    refine c_takeV (v := 6) (i := 0) t3 hT hn ha (by decide) (by decide) rfl rfl k3 nz f3 (ntf_le fl (by decide)) p3 e3 (fun z h' r' e' => ⟨_, rfl, fun y => absurd rfl y, fun _ => ⟨Or.inl rfl, c_noNum L ev (by decide) (fun l hl => absurd hl (Nat.not_lt_zero l)) hbad (mF_mg r3 (by omega)) z r' e'⟩⟩) (fun z h' r' e89 k' f' p' _ => ⟨_, rfl, fun _ => ⟨(mg_mt r' (by omega) t3).1.1, ?_⟩, fun y => absurd y (by decide)⟩)
    refine c_keepV (v := 6) L (by decide) ev (fun l hl => ?_) (mg_tr r3 r') (fun j hj => ?_) k' f' p' hok
    · have : l < 1 := hl
      rw [show l = 0 by omega]; exact z
    · have : j < 1 := hj
      rw [show j = 0 by omega, e89]; rfl
  · cases ev : vb T n 1 a with
    | none => rfl
    | some w =>
      obtain ⟨w1, w2, w3⟩ := vb_w ev
      have : w = 6 := by
        rcases (by omega : w = 0 ∨ w = 1 ∨ w = 2 ∨ w = 3 ∨ w = 4 ∨ w = 5 ∨ w = 6 ∨ w = 7 ∨ w = 8 ∨ w = 9 ∨ w = 10) with rfl | rfl | rfl | rfl | rfl | rfl | rfl | rfl | rfl | rfl | rfl <;> first | rfl | (exact absurd w2 (by decide))
      subst this
      exact absurd (lg_0.mpr (by rw [w3]; exact wL_c.2.2.2.2.2.2.2.2.2.1)) q
theorem c_trainLine (L : lb_at h T n a 3 st) (hbad : lbad_K h T n a 3 Ret) (hok : lok_K h T n a 3 st Ret) : mX10_trainLine g [.ref 77, .long (mw T n a), .int (nI (tks T n a))] h Ret := by
  obtain ⟨t, hT, hn, ha, nz, kk, tb, f, fl, pl, e24, ok⟩ := id L
  refine eX10_trainLine ⟨fun q => ⟨t.1.1, ?_⟩, fun q => ⟨t.1.1, c_noVerb L ?_ hbad⟩⟩
  · have e := lg_0.mp q
    rw [← wL_c.2.2.2.2.2.2.2.2.2.2.2.1] at e
    have ev : vb T n 3 a = some 8 := vb_of (v := 8) (by decide) e rfl
    refine c_fullV (v := 8) L (by decide) ev (fun h3 r3 t3 k3 f3 p3 e3 => ?_)
    refine c_takeV (v := 8) (i := 0) t3 hT hn ha (by decide) (by decide) rfl rfl k3 nz f3 (ntf_le fl (by decide)) p3 e3 (fun z h' r' e' => ⟨_, rfl, fun _ => ⟨Or.inl rfl, c_noNum L ev (by decide) (fun l hl => absurd hl (Nat.not_lt_zero l)) hbad (mF_mg r3 (by omega)) z r' e'⟩, fun y => absurd rfl y⟩) (fun z h5 r5 e5 k5 f5 p5 g5 => ⟨_, rfl, fun y => absurd y (by decide), fun _ => ⟨(mg_mt r5 (by omega) t3).1.1, ?_⟩⟩)
    refine c_takeV (v := 8) (i := 1) (mg_mt r5 (by omega) t3) hT hn ha (by decide) (by decide) rfl rfl k5 (by rw [z]; decide) f5 (ntf_le fl (by decide)) p5 g5 (fun z2 h' r' e' => ⟨_, rfl, fun y => absurd rfl y, fun _ => ⟨Or.inl rfl, c_noNum L ev (by decide) (fun l hl => by rw [show l = 0 by omega]; exact z) hbad (mF_mg (mg_tr r3 r5) (by omega)) z2 r' e'⟩⟩) (fun z2 h8 r8 e8 k8 f8 p8 _ => ⟨_, rfl, fun _ => ⟨(mg_mt r8 (by omega) (mg_mt r5 (by omega) t3)).1.1, ?_⟩, fun y => absurd y (by decide)⟩)
    refine c_keepV (v := 8) L (by decide) ev (fun l hl => ?_) (mg_tr r3 (mg_tr r5 r8)) (fun j hj => ?_) k8 f8 p8 hok
    · have : l < 2 := hl
      rcases (by omega : l = 0 ∨ l = 1) with rfl | rfl
      · exact z
      · exact z2
    · have : j < 2 := hj
      rcases (by omega : j = 0 ∨ j = 1) with rfl | rfl
      · rw [e8, if_neg (by decide), e5]; rfl
      · rw [e8]; rfl
  · cases ev : vb T n 3 a with
    | none => rfl
    | some w =>
      obtain ⟨w1, w2, w3⟩ := vb_w ev
      have : w = 8 := by
        rcases (by omega : w = 0 ∨ w = 1 ∨ w = 2 ∨ w = 3 ∨ w = 4 ∨ w = 5 ∨ w = 6 ∨ w = 7 ∨ w = 8 ∨ w = 9 ∨ w = 10) with rfl | rfl | rfl | rfl | rfl | rfl | rfl | rfl | rfl | rfl | rfl <;> first | rfl | (exact absurd w2 (by decide))
      subst this
      exact absurd (lg_0.mpr (by rw [w3]; exact wL_c.2.2.2.2.2.2.2.2.2.2.2.1)) q
theorem c_errandLine (L : lb_at h T n a 2 st) (hbad : lbad_K h T n a 2 Ret) (hok : lok_K h T n a 2 st Ret) : mX10_errandLine g [.ref 77, .long (mw T n a), .int (nI (tks T n a))] h Ret := by
  obtain ⟨t, hT, hn, ha, nz, kk, tb, f, fl, pl, e24, ok⟩ := id L
  refine eX10_errandLine ⟨fun q => ⟨t.1.1, ?_⟩, fun q => ⟨t.1.1, c_noVerb L ?_ hbad⟩⟩
  · have e := lg_0.mp q
    rw [← wL_c.2.2.2.2.2.2.2.2.2.2.1] at e
    have ev : vb T n 2 a = some 7 := vb_of (v := 7) (by decide) e rfl
    refine c_fullV (v := 7) L (by decide) ev (fun h3 r3 t3 k3 f3 p3 e3 => ?_)
    refine c_takeV (v := 7) (i := 0) t3 hT hn ha (by decide) (by decide) rfl rfl k3 nz f3 (ntf_le fl (by decide)) p3 e3 (fun z h' r' e' => ⟨_, rfl, fun _ => ⟨Or.inl rfl, c_noNum L ev (by decide) (fun l hl => absurd hl (Nat.not_lt_zero l)) hbad (mF_mg r3 (by omega)) z r' e'⟩, fun y => absurd rfl y⟩) (fun z h5 r5 e5 k5 f5 p5 g5 => ⟨_, rfl, fun y => absurd y (by decide), fun _ => ⟨(mg_mt r5 (by omega) t3).1.1, ?_⟩⟩)
    have t5 := mg_mt r5 (by omega) t3
    refine c_takeV (v := 7) (i := 1) t5 hT hn ha (by decide) (by decide) rfl rfl k5 (by rw [z]; decide) f5 (ntf_le fl (by decide)) p5 g5 (fun z2 h' r' e' => ⟨_, rfl, fun _ => ⟨Or.inl rfl, c_noNum L ev (by decide) (fun l hl => by rw [show l = 0 by omega]; exact z) hbad (mF_mg (mg_tr r3 r5) (by omega)) z2 r' e'⟩, fun y => absurd rfl y⟩) (fun z2 h8 r8 e8 k8 f8 p8 g8 => ⟨_, rfl, fun y => absurd y (by decide), fun _ => ?_⟩)
    have t8 := mg_mt r8 (by omega) t5
    obtain ⟨r21, s21⟩ : ax_r h8 77 21 = some 89 ∧ ax_s h8 89 = (11, 3) := t8.1.2 11 _ rfl
    refine ⟨t8.1.1, 89, r21, sh_k s21, by rw [s21]; exact vp_in_nI (n := 1) (N := 3) (by decide) (by decide), t8.1.1, ?_⟩
    have e81 : ax_i h8 89 1 = nI (l_x T n a 1) := by rw [e8]; rfl
    rw [e81]
    refine c_takeV (v := 7) (i := 2) t8 hT hn ha (by decide) (by decide) rfl rfl k8 (by rw [z2]; decide) f8 (ntf_le fl (by decide)) p8 g8 (fun z3 h' r' e' => ⟨_, rfl, fun y => absurd rfl y, fun _ => ⟨Or.inl rfl, c_noNum L ev (by decide) (fun l hl => ?_) hbad (mF_mg (mg_tr r3 (mg_tr r5 r8)) (by omega)) z3 r' e'⟩⟩) (fun z3 h9 r9 e9 k9 f9 p9 _ => ⟨_, rfl, fun _ => ⟨(mg_mt r9 (by omega) t8).1.1, ?_⟩, fun y => absurd y (by decide)⟩)
    · rcases (by omega : l = 0 ∨ l = 1) with rfl | rfl
      · exact z
      · exact z2
    refine c_keepV (v := 7) L (by decide) ev (fun l hl => ?_) (mg_tr r3 (mg_tr r5 (mg_tr r8 r9))) (fun j hj => ?_) k9 f9 p9 hok
    · have : l < 3 := hl
      rcases (by omega : l = 0 ∨ l = 1 ∨ l = 2) with rfl | rfl | rfl
      · exact z
      · exact z2
      · exact z3
    · have : j < 3 := hj
      rcases (by omega : j = 0 ∨ j = 1 ∨ j = 2) with rfl | rfl | rfl
      · rw [e9, if_neg (by decide), e8, if_neg (by decide), e5]; rfl
      · rw [e9, if_neg (by decide), e8]; rfl
      · rw [e9]; rfl
  · cases ev : vb T n 2 a with
    | none => rfl
    | some w =>
      obtain ⟨w1, w2, w3⟩ := vb_w ev
      have : w = 7 := by
        rcases (by omega : w = 0 ∨ w = 1 ∨ w = 2 ∨ w = 3 ∨ w = 4 ∨ w = 5 ∨ w = 6 ∨ w = 7 ∨ w = 8 ∨ w = 9 ∨ w = 10) with rfl | rfl | rfl | rfl | rfl | rfl | rfl | rfl | rfl | rfl | rfl <;> first | rfl | (exact absurd w2 (by decide))
      subst this
      exact absurd (lg_0.mpr (by rw [w3]; exact wL_c.2.2.2.2.2.2.2.2.2.2.1)) q
theorem c_sightLine (L : lb_at h T n a 4 st) (hbad : lbad_K h T n a 4 Ret) (hok : lok_K h T n a 4 st Ret) : mX10_sightLine g [.ref 77, .long (mw T n a), .int (nI (tks T n a))] h Ret := by
  obtain ⟨t, hT, hn, ha, nz, kk, tb, f, fl, pl, e24, ok⟩ := id L
  have i2 : vp_in (2 : Int32) 3 := vp_in_nI (n := 2) (N := 3) (by decide) (by decide)
  -- the three numbers, and what is kept
  have fin : ∀ (v : Nat) (h11 : ax_H), (v = 9 ∨ v = 10) → vb T n 4 a = some v → (∀ l, l < 3 → tkk T n (ps T n a (l + 1)) = 2) → mg (fun k => k = 18 ∨ k = 19 ∨ k = 24) h h11 → (∀ j, j < 3 → ax_i h11 89 j = nI (l_x T n a j)) → mk_at h11 T n (ps T n a 4) → lp_at h11 (l_fp v (l_x T n a) (tks T n a) (l_q T n a) st) → ((l_fp v (l_x T n a) (tks T n a) (l_q T n a) st).1 ≠ 0 → (l_fp v (l_x T n a) (tks T n a) (l_q T n a) st).2 ≤ tks T n (ps T n a 3)) → ∀ w : Int32, w = lval v (l_x T n a) 2 → mX10_keep g [.ref 77, .int 1, .int 3, .int 6] (ax_pi h11 89 2 w) (fun v18 h17 => v18 = none ∧ ((1 : Int32) = 0 ∨ (1 : Int32) = 1) ∧ Ret (some (.int 1)) h17) := by
    intro v h11 hv ev hb r e89 k11 f11 p11 w hw
    have r' : mg (fun k => k = 18 ∨ k = 19 ∨ k = 24) h (ax_pi h11 89 2 w) := mg_tr r mg_89
    have l3 : lnu v = 3 := by rcases hv with rfl | rfl <;> rfl
    refine c_keepV (s := 4) (v := v) L (by omega) ev (fun l hl => hb l (by omega)) r' (fun j hj => ?_) ?_ ?_ (by rw [l3]; exact p11) hok
    · have : j < 3 := hj
      by_cases e : j = 2
      · rw [e, ai_eq]; exact hw
      · rw [ai_ne (by omega), e89 j (by omega)]
        unfold lval
        rw [if_neg (fun z => e z.2)]
    · rw [l3]
      exact ⟨by rw [ai_ne (by omega)]; exact k11.1, by rw [ai_ne (by omega)]; exact k11.2.1, by rw [ai_ne (by omega)]; exact k11.2.2.1, fun z => by rw [ai_ne (by omega)]; exact k11.2.2.2.1 z, fun z => k11.2.2.2.2 z⟩
    · exact ⟨by rw [ai_ne (by omega)]; exact f11.1, fun z => by rw [ai_ne (by omega)]; exact f11.2 z⟩
  have go : ∀ v : Nat, (v = 9 ∨ v = 10) → mw T n a = wL (v + 3) → ∀ h3 : ax_H, mg (fun k => k = 18 ∨ k = 19 ∨ k = 24) h h3 → mt_at h3 T n → mk_at h3 T n (ps T n a 1) → lp_at h3 (nt (l_f st, l_p st) (ltoo v st) 3 (tks T n a)) → ((nt (l_f st, l_p st) (ltoo v st) 3 (tks T n a)).1 ≠ 0 → (nt (l_f st, l_p st) (ltoo v st) 3 (tks T n a)).2 ≤ tks T n a) → ax_i h3 77 24 = 1 → mX10_take g [.ref 77, .int 0, .int 1, .int 3] h3 (fun v6 h5 => ∃ r7 : Int32, v6 = some (.int r7) ∧ (r7 = 0 → ((0 : Int32) = 0 ∨ (0 : Int32) = 1) ∧ Ret (some (.int 0)) h5) ∧ (¬ r7 = 0 → (ax_s h5 77).1 = 10 ∧ mX10_take g [.ref 77, .int 1, .int 0, .int 5] h5 (fun v9 h8 => ∃ r10 : Int32, v9 = some (.int r10) ∧ (r10 = 0 → ((0 : Int32) = 0 ∨ (0 : Int32) = 1) ∧ Ret (some (.int 0)) h8) ∧ (¬ r10 = 0 → (ax_s h8 77).1 = 10 ∧ mX10_take g [.ref 77, .int 2, .int 0, .int 999] h8 (fun v12 h11 => ∃ r13 : Int32, v12 = some (.int r13) ∧ (¬ r13 = 0 → (ax_s h11 77).1 = 10 ∧ ∃ b14 : Nat, ax_r h11 77 21 = some b14 ∧ (¬ lg_cmp (mw T n a) 1870095731 = 0 → (ax_s h11 77).1 = 10 ∧ ∃ b15 : Nat, ax_r h11 77 21 = some b15 ∧ (ax_s h11 b15).1 = 11 ∧ vp_in 2 (ax_s h11 b15).2 ∧ (ax_s h11 b14).1 = 11 ∧ vp_in 2 (ax_s h11 b14).2 ∧ (ax_s (ax_pi h11 b14 2 (ax_i h11 b15 2)) 77).1 = 10 ∧ mX10_keep g [.ref 77, .int 1, .int 3, .int 6] (ax_pi h11 b14 2 (ax_i h11 b15 2)) (fun v18 h17 => v18 = none ∧ ((1 : Int32) = 0 ∨ (1 : Int32) = 1) ∧ Ret (some (.int 1)) h17)) ∧ (lg_cmp (mw T n a) 1870095731 = 0 → (ax_s h11 77).1 = 10 ∧ ∃ b19 : Nat, ax_r h11 77 21 = some b19 ∧ (ax_s h11 b19).1 = 11 ∧ vp_in 2 (ax_s h11 b19).2 ∧ (ax_s h11 b14).1 = 11 ∧ vp_in 2 (ax_s h11 b14).2 ∧ (ax_s (ax_pi h11 b14 2 (-(ax_i h11 b19 2))) 77).1 = 10 ∧ mX10_keep g [.ref 77, .int 1, .int 3, .int 6] (ax_pi h11 b14 2 (-(ax_i h11 b19 2))) (fun v22 h21 => v22 = none ∧ ((1 : Int32) = 0 ∨ (1 : Int32) = 1) ∧ Ret (some (.int 1)) h21))) ∧ (r13 = 0 → ((0 : Int32) = 0 ∨ (0 : Int32) = 1) ∧ Ret (some (.int 0)) h11)))))) := by
    intro v hv ew h3 r3 t3 k3 f3 p3 e3
    have hv11 : v < 11 := by omega
    have ev : vb T n 4 a = some v := vb_of hv11 ew (by rcases hv with rfl | rfl <;> rfl)
    have l3 : lnu v = 3 := by rcases hv with rfl | rfl <;> rfl
    have c0 : llo v 0 = 1 ∧ lhi v 0 = 3 ∧ llo v 1 = 0 ∧ lhi v 1 = 5 ∧ llo v 2 = 0 ∧ lhi v 2 = 999 := by rcases hv with rfl | rfl <;> decide
    have n7 : ∀ i, ¬ (v = 7 ∧ i = 2) := fun i z => by omega
    refine c_takeV (v := v) (i := 0) (LO := 1) (HI := 3) t3 hT hn ha hv11 (by omega) (by rw [if_neg (n7 0), c0.1]) c0.2.1.symm k3 nz f3 (ntf_le fl (by decide)) p3 e3 (fun z h' r' e' => ⟨_, rfl, fun _ => ⟨Or.inl rfl, c_noNum L ev (by omega) (fun l hl => absurd hl (Nat.not_lt_zero l)) hbad (mF_mg r3 (by omega)) z r' e'⟩, fun y => absurd rfl y⟩) (fun z h5 r5 e5 k5 f5 p5 g5 => ⟨_, rfl, fun y => absurd y (by decide), fun _ => ⟨(mg_mt r5 (by omega) t3).1.1, ?_⟩⟩)
    have t5 := mg_mt r5 (by omega) t3
    refine c_takeV (v := v) (i := 1) (LO := 0) (HI := 5) t5 hT hn ha hv11 (by omega) (by rw [if_neg (n7 1), c0.2.2.1]) c0.2.2.2.1.symm k5 (by rw [z]; decide) f5 (ntf_le fl (by decide)) p5 g5 (fun z2 h' r' e' => ⟨_, rfl, fun _ => ⟨Or.inl rfl, c_noNum L ev (by omega) (fun l hl => by rw [show l = 0 by omega]; exact z) hbad (mF_mg (mg_tr r3 r5) (by omega)) z2 r' e'⟩, fun y => absurd rfl y⟩) (fun z2 h8 r8 e8 k8 f8 p8 g8 => ⟨_, rfl, fun y => absurd y (by decide), fun _ => ⟨(mg_mt r8 (by omega) t5).1.1, ?_⟩⟩)
    have t8 := mg_mt r8 (by omega) t5
    refine c_takeV (v := v) (i := 2) (LO := 0) (HI := 999) t8 hT hn ha hv11 (by omega) (by rw [if_neg (n7 2), c0.2.2.2.2.1]) c0.2.2.2.2.2.symm k8 (by rw [z2]; decide) f8 (ntf_le fl (by decide)) p8 g8 (fun z3 h' r' e' => ⟨_, rfl, fun y => absurd rfl y, fun _ => ⟨Or.inl rfl, c_noNum L ev (by omega) (fun l hl => ?_) hbad (mF_mg (mg_tr r3 (mg_tr r5 r8)) (by omega)) z3 r' e'⟩⟩) (fun z3 h11 r11 e11 k11 f11 p11 _ => ⟨_, rfl, fun _ => ?_, fun y => absurd y (by decide)⟩)
    · rcases (by omega : l = 0 ∨ l = 1) with rfl | rfl
      · exact z
      · exact z2
    have t11 := mg_mt r11 (by omega) t8
    obtain ⟨r21, s21⟩ : ax_r h11 77 21 = some 89 ∧ ax_s h11 89 = (11, 3) := t11.1.2 11 _ rfl
    have i2' : vp_in (2 : Int32) (ax_s h11 89).2 := by rw [s21]; exact i2
    have hb : ∀ l, l < 3 → tkk T n (ps T n a (l + 1)) = 2 := fun l hl => by
      rcases (by omega : l = 0 ∨ l = 1 ∨ l = 2) with rfl | rfl | rfl
      · exact z
      · exact z2
      · exact z3
    have e89 : ∀ j, j < 3 → ax_i h11 89 j = nI (l_x T n a j) := fun j hj => by
      rcases (by omega : j = 0 ∨ j = 1 ∨ j = 2) with rfl | rfl | rfl
      · rw [e11, if_neg (by decide), e8, if_neg (by decide), e5]; rfl
      · rw [e11, if_neg (by decide), e8]; rfl
      · rw [e11]; rfl
    have ff : lp_at h11 (l_fp v (l_x T n a) (tks T n a) (l_q T n a) st) := by unfold l_fp; rw [l3]; exact f11
    have pp : (l_fp v (l_x T n a) (tks T n a) (l_q T n a) st).1 ≠ 0 → (l_fp v (l_x T n a) (tks T n a) (l_q T n a) st).2 ≤ tks T n (ps T n a 3) := by unfold l_fp; rw [l3]; exact p11
    refine ⟨t11.1.1, 89, r21, fun q => ⟨t11.1.1, 89, r21, sh_k s21, i2', sh_k s21, i2', t11.1.1, ?_⟩, fun q => ⟨t11.1.1, 89, r21, sh_k s21, i2', sh_k s21, i2', t11.1.1, ?_⟩⟩
    · refine fin v h11 hv ev hb (mg_tr r3 (mg_tr r5 (mg_tr r8 r11))) e89 k11 ff pp _ ?_
      unfold lval
      rw [if_neg (fun z => q (lg_0.mpr (by rw [ew, z.1]; exact wL_c.2.2.2.2.2.2.2.2.2.2.2.2.2))), e89 2 (by decide)]
    · have e10 : v = 10 := by
        rcases hv with rfl | rfl
        · have := lg_0.mp q
          rw [ew, ← wL_c.2.2.2.2.2.2.2.2.2.2.2.2.2] at this
          exact absurd this (wL_ne 12 (by decide) 13 (by decide) (by decide))
        · rfl
      refine fin v h11 hv ev hb (mg_tr r3 (mg_tr r5 (mg_tr r8 r11))) e89 k11 ff pp _ ?_
      unfold lval
      rw [if_pos ⟨e10, rfl⟩, e89 2 (by decide)]
  refine eX10_sightLine ⟨fun q => ⟨t.1.1, ?_⟩, fun q => ⟨fun q2 => ⟨t.1.1, ?_⟩, fun q2 => ⟨t.1.1, c_noVerb L ?_ hbad⟩⟩⟩
  · have e := lg_0.mp q
    rw [← wL_c.2.2.2.2.2.2.2.2.2.2.2.2.1] at e
    exact c_fullV (s := 4) (v := 9) L (by decide) (vb_of (by decide) e rfl) (fun h3 r3 t3 k3 f3 p3 e3 => go 9 (Or.inl rfl) e h3 r3 t3 k3 f3 p3 e3)
  · have e := lg_0.mp q2
    rw [← wL_c.2.2.2.2.2.2.2.2.2.2.2.2.2] at e
    exact c_fullV (s := 4) (v := 10) L (by decide) (vb_of (by decide) e rfl) (fun h3 r3 t3 k3 f3 p3 e3 => go 10 (Or.inr rfl) e h3 r3 t3 k3 f3 p3 e3)
  · cases ev : vb T n 4 a with
    | none => rfl
    | some w =>
      obtain ⟨w1, w2, w3⟩ := vb_w ev
      have : w = 9 ∨ w = 10 := by
        rcases (by omega : w = 0 ∨ w = 1 ∨ w = 2 ∨ w = 3 ∨ w = 4 ∨ w = 5 ∨ w = 6 ∨ w = 7 ∨ w = 8 ∨ w = 9 ∨ w = 10) with rfl | rfl | rfl | rfl | rfl | rfl | rfl | rfl | rfl | rfl | rfl <;> first | (exact Or.inl rfl) | (exact Or.inr rfl) | (exact absurd w2 (by decide))
      rcases this with rfl | rfl
      · exact absurd (lg_0.mpr (by rw [w3]; exact wL_c.2.2.2.2.2.2.2.2.2.2.2.2.1)) q
      · exact absurd (lg_0.mpr (by rw [w3]; exact wL_c.2.2.2.2.2.2.2.2.2.2.2.2.2)) q2
end
end

section
section
variable {g : ax_G} {Ret : Option Value → ax_H → Prop} {h hh : ax_H} {T : Nat → Int32} {n a v md : Nat} {st : lS}
/-! lines of a republic, told by the reference -/
theorem tb0_line {x q : Nat → Nat} {q0 : Nat} (c1 : (l_fp v x q0 q st).1 = 0 → ax_i h 77 22 = l_h (l_tell v x md st) ∧ ax_i h 77 23 = l_o (l_tell v x md st) ∧ fq_at h (l_D (l_tell v x md st))) (c2 : (l_fp v x q0 q st).1 ≠ 0 → ∃ k, k ≤ 6 ∧ ax_i h 88 1 = nI k) : tb_at h 0 (l_line v x md q0 q st) := by
  unfold l_line
  by_cases z : (l_fp v x q0 q st).1 = 0
  · rw [if_pos z]
    obtain ⟨a1, a2, a3⟩ := c1 z
    refine ⟨fun _ => ⟨a1, a2, fun _ => a3, fun q => absurd q (by decide)⟩, fun w => absurd ?_ w⟩
    rw [l_tell_f.1]; exact (l_fp_0 z).1
  · rw [if_neg z]
    exact ⟨fun w => absurd w z, fun _ => ⟨fun _ => c2 z, fun q => absurd q (by decide)⟩⟩
theorem c_end0 (L : lb_at h T n a 0 st) (elpx : lpx T n 0 a = .inr (v, md)) (hv : v < 11) (hs : lvs v = 0) (hmd : md < 3) (rF : mF h hh) (kk : mk_at hh T n (ps T n a (l_m v))) (c1 : (l_fp v (l_x T n a) (tks T n a) (l_q T n a) st).1 = 0 → ax_i hh 77 22 = l_h (l_tell v (l_x T n a) md st) ∧ ax_i hh 77 23 = l_o (l_tell v (l_x T n a) md st) ∧ fq_at hh (l_D (l_tell v (l_x T n a) md st))) (c2 : (l_fp v (l_x T n a) (tks T n a) (l_q T n a) st).1 ≠ 0 → ∃ k, k ≤ 6 ∧ ax_i hh 88 1 = nI k) (f : lp_at hh (l_fp v (l_x T n a) (tks T n a) (l_q T n a) st)) (pl : (l_fp v (l_x T n a) (tks T n a) (l_q T n a) st).1 ≠ 0 → (l_fp v (l_x T n a) (tks T n a) (l_q T n a) st).2 < tks T n (ps T n a (l_m v))) (hok : lok_K h T n a 0 st Ret) : Ret (some (.int 1)) hh := by
  have e := l_line_fp (v := v) (st := st) (x := l_x T n a) (md := md) (q0 := tks T n a) (q := l_q T n a)
  refine hok v md elpx hv hs hmd hh rF kk (tb0_line c1 c2) (by rw [e]; exact f) (fun z => ?_)
  have e1 : l_f (l_line v (l_x T n a) md (tks T n a) (l_q T n a) st) = (l_fp v (l_x T n a) (tks T n a) (l_q T n a) st).1 := congrArg Prod.fst e
  have e2 : l_p (l_line v (l_x T n a) md (tks T n a) (l_q T n a) st) = (l_fp v (l_x T n a) (tks T n a) (l_q T n a) st).2 := congrArg Prod.snd e
  rw [e1] at z
  rw [e2]; exact pl z
theorem mx_gr {x y : Int32} (hq : Ret (some (.int (mx x y))) h) : mX10_greater g [.int x, .int y] h Ret := by
  unfold mx at hq
  refine eX10_greater ⟨fun q => ?_, fun q => ?_⟩
  · by_cases z : x < y
    · rw [if_pos z] at hq; exact hq
    · rw [if_neg z] at hq
      have : x = y := i_inj (by have := i_le.mp q; have := i_le.mp (nt_lt.mp z); omega)
      rw [← this]; exact hq
  · rw [if_neg (fun z => q (i_le.mpr (by have := i_lt.mp z; omega)))] at hq; exact hq
/-- what a republic's line stands on, behind its verb -/
def rb0 (h hh : ax_H) (T : Nat → Int32) (n a v : Nat) (st : lS) : Prop := mg (fun k => k = 18 ∨ k = 19 ∨ k = 24) h hh ∧ mk_at hh T n (ps T n a 1) ∧ lp_at hh (nt (l_f st, l_p st) (ltoo v st) 3 (tks T n a)) ∧ ((nt (l_f st, l_p st) (ltoo v st) 3 (tks T n a)).1 ≠ 0 → (nt (l_f st, l_p st) (ltoo v st) 3 (tks T n a)).2 ≤ tks T n a) ∧ ax_i hh 77 24 = 1
theorem c_kindLine (L : lb_at h T n a 0 st) (hv : v = 1 ∨ v = 2) (ev : vb T n 0 a = some v) (B : rb0 h hh T n a v st) (hbad : lbad_K h T n a 0 Ret) (hok : lok_K h T n a 0 st Ret) : mX10_kindLine g [.ref 77, .int (if v = 2 then 1 else 0)] hh Ret := by
  obtain ⟨t, hT, hn, ha, nz, -, tb, -, fl, -, -, ok⟩ := id L
  obtain ⟨r3, k3, f3, p3, e3⟩ := B
  have t3 := mg_mt r3 (by omega) t
  have hv11 : v < 11 := by omega
  have l2 : lnu v = 2 := by rcases hv with rfl | rfl <;> rfl
  have lm4 : l_m v = 4 := by unfold l_m; rw [if_pos hv, l2]
  have c0 : llo v 0 = 0 ∧ lhi v 0 = 5 ∧ llo v 1 = 0 ∧ lhi v 1 = 99 ∧ lvs v = 0 := by rcases hv with rfl | rfl <;> decide
  have n7 : ∀ i, ¬ (v = 7 ∧ i = 2) := fun i z => by omega
  refine uX10_kindLine (fun A hA => vX10_kindLine_0 hA ⟨t3.1.1, c_takeV (v := v) (i := 0) (LO := 0) (HI := 5) t3 hT hn ha hv11 (by omega) (by rw [if_neg (n7 0), c0.1]) c0.2.1.symm k3 nz f3 (ntf_le fl (by decide)) p3 e3 (fun z h' r' e' => ⟨_, rfl, fun _ => ⟨Or.inl rfl, c_noNum L ev (by omega) (fun l hl => absurd hl (Nat.not_lt_zero l)) hbad (mF_mg r3 (by omega)) z r' e'⟩, fun y => absurd rfl y⟩) (fun z h5 r5 e5 k5 f5 p5 g5 => ⟨_, rfl, fun y => absurd y (by decide), fun _ => ⟨(mg_mt r5 (by omega) t3).1.1, ?_⟩⟩)⟩)
  have t5 := mg_mt r5 (by omega) t3
  refine c_takeV (v := v) (i := 1) (LO := 0) (HI := 99) t5 hT hn ha hv11 (by omega) (by rw [if_neg (n7 1), c0.2.2.1]) c0.2.2.2.1.symm k5 (by rw [z]; decide) f5 (ntf_le fl (by decide)) p5 g5 (fun z2 h' r' e' => ⟨_, rfl, fun y => absurd rfl y, fun _ => ⟨Or.inl rfl, c_noNum L ev (by omega) (fun l hl => by rw [show l = 0 by omega]; exact z) hbad (mF_mg (mg_tr r3 r5) (by omega)) z2 r' e'⟩⟩) (fun z2 h4 r4 e4 k4 f4 p4 g4 => ⟨_, rfl, fun _ => ?_, fun y => absurd y (by decide)⟩)
  have t4 := mg_mt r4 (by omega) t5
  have R4 : mg (fun k => k = 18 ∨ k = 19 ∨ k = 24) h h4 := mg_tr r3 (mg_tr r5 r4)
  have k4 : mk_at h4 T n (ps T n a 3) := k4
  have enf : nf T n a (lnu v) 0 = none := nf_none _ 0 (fun l _ hl => by
    rcases (by omega : l = 0 ∨ l = 1) with rfl | rfl
    · exact z
    · exact z2)
  have emw : tkk T n (ps T n a 3) = 1 → ax_l h4 77 16 = mw T n (ps T n a 3) := fun w => by rw [k4.2.2.2.2 w]; unfold mw; rw [if_pos w]
  have tb4 : tb_at h4 0 st := tb_mg R4 (by omega) tb
  have x0 : ax_i h4 89 0 = nI (l_x T n a 0) := by rw [e4, if_neg (by decide), e5]; rfl
  have x1 : ax_i h4 89 1 = nI (l_x T n a 1) := by rw [e4]; rfl
  have xb0 := l_x_le (T := T) ha 0
  have ff : lp_at h4 (l_fp v (l_x T n a) (tks T n a) (l_q T n a) st) := by unfold l_fp; rw [l2]; exact f4
  have pp : (l_fp v (l_x T n a) (tks T n a) (l_q T n a) st).1 ≠ 0 → (l_fp v (l_x T n a) (tks T n a) (l_q T n a) st).2 ≤ tks T n (ps T n a 2) := by unfold l_fp; rw [l2]; exact p4
  have g4 : ax_i h4 77 24 = b2i (gdr v (l_x T n a) 2) := g4
  -- without a mode
  have nomode : mdw T n (ps T n a 3) = none → ∀ (o2 : Option Value) (y1 : Int32), A (81, [some (.ref 77), some (.int y1), o2], [.int (-1)], h4, 0, 0) := by
    intro em o2 y1
    refine vX10_kindLine_81 hA ⟨fun q => absurd rfl q, fun _ => ⟨t4.1.1, c_mfails t4.1.1 (fun h' r' e' => ⟨_, rfl, Or.inl rfl, hbad _ ?_ h' (mF_tr (mF_mg R4 (by omega)) (mF_mg (mg_of (J' := fun k => k = 17) r' (fun x hx => Or.inr hx)) (by omega))) (by rw [e']; exact k4.1)⟩)⟩⟩
    unfold lpx
    rw [ev]
    dsimp only
    rw [enf]
    dsimp only
    rw [if_pos hv, l2, em]
  -- with a mode
  have mode : ∀ m : Nat, mdw T n (ps T n a 3) = some m → ∀ o2 : Option Value, A (81, [some (.ref 77), some (.int (if v = 2 then 1 else 0)), o2], [.int (nI m)], h4, 0, 0) := by
    intro m em o2
    have m3 := mdw_lt em
    have elpx : lpx T n 0 a = .inr (v, m) := by
      unfold lpx
      rw [ev]
      dsimp only
      rw [enf]
      dsimp only
      rw [if_pos hv, l2, em]
    have nz3 : tkk T n (ps T n a 3) ≠ 0 := fun w => by
      unfold mdw tw at em
      have nn : ∀ i, decide (tkk T n (ps T n a 3) = 1 ∧ tkb T n (ps T n a 3) - tks T n (ps T n a 3) = ax_sl.getD i 0 ∧ ∀ j, j < ax_sl.getD i 0 → T (tks T n (ps T n a 3) + j) = (ax_sb.getD i []).getD j 0) = false := fun i => decide_eq_false (fun q => by rw [w] at q; exact absurd q.1 (by decide))
      rw [nn 0, nn 1, nn 2] at em
      cases em
    have pl4 : (l_fp v (l_x T n a) (tks T n a) (l_q T n a) st).1 ≠ 0 → (l_fp v (l_x T n a) (tks T n a) (l_q T n a) st).2 < tks T n (ps T n a (l_m v)) := fun w => by
      rw [lm4]
      have a1 := pp w
      have a2 := tks_lt (T := T) (i := 2) ha (by rw [z2]; decide)
      have a3 := tks_lt (T := T) (i := 3) ha nz3
      have a2 : tks T n (ps T n a 2) < tks T n (ps T n a 3) := a2
      have a3 : tks T n (ps T n a 3) < tks T n (ps T n a 4) := a3
      omega
    refine vX10_kindLine_81 hA ⟨fun _ => ⟨t4.1.1, c_mnext t4 hT hn (ps_le ha 3).2 k4 (fun h7 r7 k7 => ⟨rfl, ?_⟩)⟩, fun q => absurd q (nI_nm1 (by omega))⟩
    have t7 := mf_mt r7 (by omega) t4
    have R7 : mg (fun k => k = 18 ∨ k = 19 ∨ k = 24) h h7 := mg_tr R4 (mg_of r7 (fun x hx => Or.inl hx))
    have tb7 : tb_at h7 0 st := tb_mg R7 (by omega) tb
    have k7 : mk_at h7 T n (ps T n a (l_m v)) := by rw [lm4]; exact k7
    have f7 : lp_at h7 (l_fp v (l_x T n a) (tks T n a) (l_q T n a) st) := ⟨by rw [r7.2 18 (by omega)]; exact ff.1, fun w => by rw [r7.2 19 (by omega)]; exact ff.2 w⟩
    have g7 : ax_i h7 77 24 = b2i (gdr v (l_x T n a) 2) := by rw [r7.2 24 (by omega)]; exact g4
    obtain ⟨kp, kp6, ekp, ekp0⟩ := tb_n0 ok tb7
    obtain ⟨r20, s20⟩ : ax_r h7 77 20 = some 88 ∧ ax_s h7 88 = (11, 164) := t7.1.2 10 _ rfl
    obtain ⟨r21, s21⟩ : ax_r h7 77 21 = some 89 ∧ ax_s h7 89 = (11, 3) := t7.1.2 11 _ rfl
    have x07 : ax_i h7 89 0 = nI (l_x T n a 0) := by rw [(r7.1.2.2.2 89 (by omega)).1]; exact x0
    have x17 : ax_i h7 89 1 = nI (l_x T n a 1) := by rw [(r7.1.2.2.2 89 (by omega)).1]; exact x1
    have i0 : vp_in (0 : Int32) (ax_s h7 89).2 := by rw [s21]; exact vp_in_nI (n := 0) (N := 3) (by decide) (by decide)
    have i1 : vp_in (1 : Int32) (ax_s h7 89).2 := by rw [s21]; exact vp_in_nI (n := 1) (N := 3) (by decide) (by decide)
    -- the writes
    have wr : ∀ w : Int32, w = (if v = 2 then -(nI (l_x T n a 1)) else nI (l_x T n a 1)) → gdr v (l_x T n a) 2 = true → A (136, [some (.ref 77), some (.int (if v = 2 then 1 else 0)), some (.int (nI m))], [.int w, .int ((8 : Int32) + ax_i h7 89 0), .ref 88], h7, 0, 0) := by
      intro w hw gd
      have b0 : l_x T n a 0 ≤ 5 := by have := (lbad_f (gdr_t gd 0 (by decide))).2.1; rw [c0.2.1] at this; exact this
      have e8 : (8 : Int32) + ax_i h7 89 0 = nI (8 + l_x T n a 0) := by rw [x07]; exact ni_c 8 _
      have e14 : (14 : Int32) + nI (l_x T n a 0) = nI (14 + l_x T n a 0) := ni_c 14 _
      rw [e8]
      refine vX10_kindLine_136 hA ⟨sh_k s20, by rw [s20]; exact vp_in_nI (by omega) (by decide), t7.1.1, 88, r20, t7.1.1, 89, r21, sh_k s21, i0, sh_k s20, ?_, Or.inr rfl, ?_⟩
      · rw [ai_ne (by omega), x07, e14]
        show vp_in _ (ax_s h7 88).2
        rw [s20]; exact vp_in_nI (by omega) (by decide)
      · rw [nI_clamp (by omega), ai_ne (h := h7) (a := 88) (b := 89) (by omega), x07, e14, nI_clamp (by omega)]
        have sm : ax_same (fun b => b = 88) h7 (ax_pi (ax_pi h7 88 (8 + l_x T n a 0) w) 88 (14 + l_x T n a 0) (nI m)) := sm_tr (sm_pi rfl) (sm_pi rfl)
        have e77 : ∀ j, ax_i (ax_pi (ax_pi h7 88 (8 + l_x T n a 0) w) 88 (14 + l_x T n a 0) (nI m)) 77 j = ax_i h7 77 j := (sm.2.2.2 77 (by omega)).1
        have l77 : ∀ j, ax_l (ax_pi (ax_pi h7 88 (8 + l_x T n a 0) w) 88 (14 + l_x T n a 0) (nI m)) 77 j = ax_l h7 77 j := (sm.2.2.2 77 (by omega)).2
        refine c_end0 L elpx hv11 c0.2.2.2.2 m3 (mF_tr (mF_mg R7 (by omega)) ⟨sm_mono sm (fun b hb => by omega), e77 12⟩) ⟨by rw [e77]; exact k7.1, by rw [e77]; exact k7.2.1, by rw [e77]; exact k7.2.2.1, fun q => by rw [e77]; exact k7.2.2.2.1 q, fun q => by rw [l77]; exact k7.2.2.2.2 q⟩ (fun q => ?_) (fun _ => ⟨kp, kp6, by rw [ai_ne (by omega), ai_ne (by omega)]; exact ekp⟩) ⟨by rw [e77]; exact f7.1, fun q => by rw [e77]; exact f7.2 q⟩ pl4 hok
        obtain ⟨y1, y2, y3, -⟩ := tb7.1 (l_fp_0 q).1
        obtain ⟨u1, u2, u3, u4, u5, u6, u7⟩ := y3 rfl
        have eD : l_tell v (l_x T n a) m st = (l_f st, l_p st, D_k (l_D st) (l_x T n a 0) w (nI m), st.2.2.2) := by
          rcases hv with rfl | rfl
          · rw [hw]; rfl
          · rw [hw]; rfl
        rw [eD]
        refine ⟨by rw [e77]; exact y1, by rw [e77]; exact y2, ⟨by rw [ai_ne (by omega), ai_ne (by omega)]; exact u1, by rw [ai_ne (by omega), ai_ne (by omega)]; exact u2, fun p hp => ?_, fun k hk => ?_, fun k hk => ?_, fun p q hp hq => by rw [ai_ne (by omega), ai_ne (by omega)]; exact u6 p q hp hq, fun p q hp hq => by rw [ai_ne (by omega), ai_ne (by omega)]; exact u7 p q hp hq⟩⟩
        · have : p < dP (l_D st) := hp
          have := ok.1.2.1
          rw [ai_ne (by omega), ai_ne (by omega)]; exact u3 p hp
        · rw [ai_ne (by omega)]
          show _ = (if k = l_x T n a 0 then w else dwo (l_D st) k)
          by_cases e : k = l_x T n a 0
          · rw [if_pos e, e, ai_eq]
          · rw [if_neg e, ai_ne (by omega)]; exact u4 k hk
        · show _ = (if k = l_x T n a 0 then nI m else dmo (l_D st) k)
          by_cases e : k = l_x T n a 0
          · rw [if_pos e, e, ai_eq]
          · rw [if_neg e, ai_ne (by omega), ai_ne (by omega)]; exact u5 k hk
    refine ⟨t7.1.1, fun q => ⟨Or.inr rfl, ?_⟩, fun q => ⟨t7.1.1, 88, r20, t7.1.1, 89, r21, sh_k s21, i0, fun q2 => ⟨t7.1.1, 89, r21, sh_k s21, i1, ?_⟩, fun q2 => ⟨t7.1.1, 89, r21, sh_k s21, i1, ?_⟩⟩⟩
    · rw [g7] at q
      have gd := b2i_0.mp q
      refine c_end0 L elpx hv11 c0.2.2.2.2 m3 (mF_mg R7 (by omega)) k7 (fun w => ?_) (fun _ => ⟨kp, kp6, ekp⟩) f7 pl4 hok
      have := gdr_o (l_fp_0 w).2.2
      rw [l2, gd] at this
      cases this
    · rw [g7] at q
      refine wr _ ?_ (b2i_n0.mp q)
      rw [if_neg (fun w => by rw [if_pos w] at q2; exact absurd q2 (by decide))]; exact x17
    · rw [g7] at q
      refine wr _ ?_ (b2i_n0.mp q)
      rw [if_pos (by rcases hv with rfl | rfl
                     · exact absurd rfl q2
                     · rfl), x17]
  have cmp : ∀ i, i < 14 → tkk T n (ps T n a 3) = 1 → (lg_cmp (ax_l h4 77 16) (wL i) = 0 ↔ tw T n (ps T n a 3) i = true) := fun i hi w => by rw [lg_0, emw w]; exact mw_tw hi
  refine ⟨t4.1.1, fun q => ⟨t4.1.1, ?_⟩, fun q => nomode ?_ _ _⟩
  · have k1 : tkk T n (ps T n a 3) = 1 := (mkd_2 tkk_le).mp (by rw [← k4.2.2.1]; exact q)
    have c_0 := cmp 0 (by decide) k1
    have c_1 := cmp 1 (by decide) k1
    have c_2 := cmp 2 (by decide) k1
    rw [wL_c.1] at c_0
    rw [wL_c.2.1] at c_1
    rw [wL_c.2.2.1] at c_2
    refine ⟨fun q0 => ⟨t4.1.1, fun q1 => ⟨t4.1.1, fun q2 => nomode ?_ _ _, fun q2 => mode 2 ?_ _⟩, fun q1 => mode 1 ?_ _⟩, fun q0 => mode 0 ?_ _⟩
    · unfold mdw; rw [if_neg (fun w => q0 (c_0.mpr w)), if_neg (fun w => q1 (c_1.mpr w)), if_neg (fun w => q2 (c_2.mpr w))]
    · unfold mdw; rw [if_neg (fun w => q0 (c_0.mpr w)), if_neg (fun w => q1 (c_1.mpr w)), if_pos (c_2.mp q2)]
    · unfold mdw; rw [if_neg (fun w => q0 (c_0.mpr w)), if_pos (c_1.mp q1)]
    · unfold mdw; rw [if_pos (c_0.mp q0)]
  · have k1 : tkk T n (ps T n a 3) ≠ 1 := fun w => q (by rw [k4.2.2.1]; exact (mkd_2 tkk_le).mpr w)
    have nn : ∀ i, ¬ tw T n (ps T n a 3) i = true := fun i w => k1 (of_decide_eq_true w).1
    unfold mdw
    rw [if_neg (nn 0), if_neg (nn 1), if_neg (nn 2)]
end
end

section
section
variable {g : ax_G} {Ret : Option Value → ax_H → Prop} {h hh : ax_H} {T : Nat → Int32} {n a v md : Nat} {st : lS}
theorem c_ofOne (L : lb_at h T n a 0 st) (hv : v = 4 ∨ v = 5) (ev : vb T n 0 a = some v) (B : rb0 h hh T n a v st) (hbad : lbad_K h T n a 0 Ret) (hok : lok_K h T n a 0 st Ret) : mX10_ofOne g [.ref 77, .int (if v = 5 then 1 else 0)] hh Ret := by
  obtain ⟨t, hT, hn, ha, nz, -, tb, -, fl, -, -, ok⟩ := id L
  obtain ⟨r3, k3, f3, p3, e3⟩ := B
  have t3 := mg_mt r3 (by omega) t
  have hv11 : v < 11 := by omega
  have l3 : lnu v = 3 := by rcases hv with rfl | rfl <;> rfl
  have lm4 : l_m v = 4 := by unfold l_m; rw [if_neg (by omega), l3]
  have c0 : llo v 0 = 0 ∧ lhi v 0 = 5 ∧ llo v 1 = 0 ∧ lhi v 1 = 11 ∧ llo v 2 = 0 ∧ lvs v = 0 := by rcases hv with rfl | rfl <;> decide
  have n7 : ∀ i, ¬ (v = 7 ∧ i = 2) := fun i z => by omega
  refine eX10_ofOne ⟨t3.1.1, c_takeV (v := v) (i := 0) (LO := 0) (HI := 5) t3 hT hn ha hv11 (by omega) (by rw [if_neg (n7 0), c0.1]) c0.2.1.symm k3 nz f3 (ntf_le fl (by decide)) p3 e3 (fun z h' r' e' => ⟨_, rfl, fun y => absurd rfl y, fun _ => ⟨Or.inl rfl, c_noNum L ev (by omega) (fun l hl => absurd hl (Nat.not_lt_zero l)) hbad (mF_mg r3 (by omega)) z r' e'⟩⟩) (fun z h5 r5 e5 k5 f5 p5 g5 => ⟨_, rfl, fun _ => ?_, fun y => absurd y (by decide)⟩)⟩
  have t5 := mg_mt r5 (by omega) t3
  obtain ⟨r21, s21⟩ : ax_r h5 77 21 = some 89 ∧ ax_s h5 89 = (11, 3) := t5.1.2 11 _ rfl
  have x05 : ax_i h5 89 0 = nI (l_x T n a 0) := by rw [e5]; rfl
  refine ⟨t5.1.1, t5.1.1, 89, r21, sh_k s21, by rw [s21]; exact vp_in_nI (n := 0) (N := 3) (by decide) (by decide), mx_gr ⟨_, rfl, t5.1.1, t5.1.1, ?_⟩⟩
  rw [x05]
  have R5 : mg (fun k => k = 18 ∨ k = 19 ∨ k = 24) h h5 := mg_tr r3 r5
  have m8 : mf (fun k => k = 23) h5 (ax_pi h5 77 23 (mx (ax_i h5 77 23) (nI (l_x T n a 0)))) := mf_pi rfl
  have e23 : ax_i (ax_pi h5 77 23 (mx (ax_i h5 77 23) (nI (l_x T n a 0)))) 77 23 = mx (ax_i h 77 23) (nI (l_x T n a 0)) := by rw [ai_eq, R5.2 23 (by omega) (by omega)]
  have l8 : ∀ k, ax_l (ax_pi h5 77 23 (mx (ax_i h5 77 23) (nI (l_x T n a 0)))) 77 k = ax_l h5 77 k := fun k => al_pi
  revert m8 e23 l8
  generalize ax_pi h5 77 23 (mx (ax_i h5 77 23) (nI (l_x T n a 0))) = h8
  intro m8 e23 l8
  have t8 := mf_mt m8 (by omega) t5
  have k8 : mk_at h8 T n (ps T n a 2) := ⟨by rw [m8.2 13 (by omega)]; exact k5.1, by rw [m8.2 11 (by omega)]; exact k5.2.1, by rw [m8.2 14 (by omega)]; exact k5.2.2.1, fun q => by rw [m8.2 15 (by omega)]; exact k5.2.2.2.1 q, fun q => by rw [l8]; exact k5.2.2.2.2 q⟩
  have R8 : mg (fun k => k = 18 ∨ k = 19 ∨ k = 24 ∨ k = 22 ∨ k = 23) h h8 := mg_tr (mg_mono R5 (fun k hk => by omega)) (mg_of m8 (fun k hk => Or.inr (by omega)))
  have q8 : ∀ j, ax_i h8 89 j = ax_i h5 89 j := (m8.1.2.2.2 89 (by omega)).1
  refine c_takeV (v := v) (i := 1) (LO := 0) (HI := 11) t8 hT hn ha hv11 (by omega) (by rw [if_neg (n7 1), c0.2.2.1]) c0.2.2.2.1.symm k8 (by rw [z]; decide) ⟨by rw [m8.2 18 (by omega)]; exact f5.1, fun q => by rw [m8.2 19 (by omega)]; exact f5.2 q⟩ (ntf_le fl (by decide)) p5 (by rw [m8.2 24 (by omega)]; exact g5) (fun z2 h' r' e' => ⟨_, rfl, fun y => absurd rfl y, fun _ => ⟨Or.inl rfl, c_noNum L ev (by omega) (fun l hl => by rw [show l = 0 by omega]; exact z) hbad (mF_mg R8 (by omega)) z2 r' e'⟩⟩) (fun z2 h9 r9 e9 k9 f9 p9 g9 => ⟨_, rfl, fun _ => ?_, fun y => absurd y (by decide)⟩)
  have t9 := mg_mt r9 (by omega) t8
  obtain ⟨r21', s21'⟩ : ax_r h9 77 21 = some 89 ∧ ax_s h9 89 = (11, 3) := t9.1.2 11 _ rfl
  have x19 : ax_i h9 89 1 = nI (l_x T n a 1) := by rw [e9]; rfl
  have x09 : ax_i h9 89 0 = nI (l_x T n a 0) := by rw [e9, if_neg (by decide), q8]; exact x05
  refine ⟨t9.1.1, t9.1.1, 89, r21', sh_k s21', by rw [s21']; exact vp_in_nI (n := 1) (N := 3) (by decide) (by decide), mx_gr ⟨_, rfl, t9.1.1, ?_⟩⟩
  rw [x19]
  have R9 : mg (fun k => k = 18 ∨ k = 19 ∨ k = 24 ∨ k = 22 ∨ k = 23) h h9 := mg_tr R8 (mg_mono r9 (fun k hk => by omega))
  have e22' : ax_i h9 77 22 = ax_i h 77 22 := by rw [r9.2 22 (by omega) (by omega), m8.2 22 (by omega), R5.2 22 (by omega) (by omega)]
  have e23' : ax_i h9 77 23 = mx (ax_i h 77 23) (nI (l_x T n a 0)) := by rw [r9.2 23 (by omega) (by omega)]; exact e23
  have m16 : mf (fun k => k = 22) h9 (ax_pi h9 77 22 (mx (ax_i h9 77 22) (nI (l_x T n a 1)))) := mf_pi rfl
  have f22 : ax_i (ax_pi h9 77 22 (mx (ax_i h9 77 22) (nI (l_x T n a 1)))) 77 22 = mx (ax_i h 77 22) (nI (l_x T n a 1)) := by rw [ai_eq, e22']
  have f23 : ax_i (ax_pi h9 77 22 (mx (ax_i h9 77 22) (nI (l_x T n a 1)))) 77 23 = mx (ax_i h 77 23) (nI (l_x T n a 0)) := by rw [ai_ne (by omega)]; exact e23'
  have l16 : ∀ k, ax_l (ax_pi h9 77 22 (mx (ax_i h9 77 22) (nI (l_x T n a 1)))) 77 k = ax_l h9 77 k := fun k => al_pi
  revert m16 f22 f23 l16
  generalize ax_pi h9 77 22 (mx (ax_i h9 77 22) (nI (l_x T n a 1))) = h16
  intro m16 f22 f23 l16
  have t16 := mf_mt m16 (by omega) t9
  have k16 : mk_at h16 T n (ps T n a 3) := ⟨by rw [m16.2 13 (by omega)]; exact k9.1, by rw [m16.2 11 (by omega)]; exact k9.2.1, by rw [m16.2 14 (by omega)]; exact k9.2.2.1, fun q => by rw [m16.2 15 (by omega)]; exact k9.2.2.2.1 q, fun q => by rw [l16]; exact k9.2.2.2.2 q⟩
  have R16 : mg (fun k => k = 18 ∨ k = 19 ∨ k = 24 ∨ k = 22 ∨ k = 23) h h16 := mg_tr R9 (mg_of m16 (fun k hk => Or.inr (by omega)))
  have q16 : ∀ j, ax_i h16 89 j = ax_i h9 89 j := (m16.1.2.2.2 89 (by omega)).1
  -- the third number, then the write
  have third : ∀ (HI bs : Nat) (K : Option Value → ax_H → Prop), HI = lhi v 2 → bs = (if v = 5 then 92 else 20) → (∀ h', Ret (some (.int 0)) h' → K (some (.int 0)) h') → (∀ h', mt_at h' T n → (gdr v (l_x T n a) 3 = false → ax_i h' 77 24 = 0 ∧ Ret (some (.int 1)) h') → (gdr v (l_x T n a) 3 = true → ¬ ax_i h' 77 24 = 0 ∧ (∀ j, j < 3 → ax_i h' 89 j = nI (l_x T n a j)) ∧ l_x T n a 0 ≤ 5 ∧ l_x T n a 1 ≤ 11 ∧ Ret (some (.int 1)) (ax_pi h' 88 (bs + 12 * l_x T n a 0 + l_x T n a 1) (nI (l_x T n a 2)))) → K (some (.int 1)) h') → mX10_take g [.ref 77, .int 2, .int 0, .int (nI HI)] h16 K := by
    intro HI bs K eH eb k0 k1
    refine c_takeV (v := v) (i := 2) (LO := 0) (HI := HI) t16 hT hn ha hv11 (by omega) (by rw [if_neg (n7 2), c0.2.2.2.2.1]) eH k16 (by rw [z2]; decide) ⟨by rw [m16.2 18 (by omega)]; exact f9.1, fun q => by rw [m16.2 19 (by omega)]; exact f9.2 q⟩ (ntf_le fl (by decide)) p9 (by rw [m16.2 24 (by omega)]; exact g9) (fun z3 h' r' e' => k0 h' (c_noNum L ev (by omega) (fun l hl => ?_) hbad (mF_mg R16 (by omega)) z3 r' e')) (fun z3 h17 r17 e17 k17 f17 p17 g17 => ?_)
    · rcases (by omega : l = 0 ∨ l = 1) with rfl | rfl
      · exact z
      · exact z2
    have t17 := mg_mt r17 (by omega) t16
    have R17 : mg (fun k => k = 18 ∨ k = 19 ∨ k = 24 ∨ k = 22 ∨ k = 23) h h17 := mg_tr R16 (mg_mono r17 (fun k hk => by omega))
    have e88 : ∀ j, ax_i h17 88 j = ax_i h 88 j := (R17.1.2.2.2 88 (by omega)).1
    have g22 : ax_i h17 77 22 = mx (ax_i h 77 22) (nI (l_x T n a 1)) := by rw [r17.2 22 (by omega) (by omega)]; exact f22
    have g23 : ax_i h17 77 23 = mx (ax_i h 77 23) (nI (l_x T n a 0)) := by rw [r17.2 23 (by omega) (by omega)]; exact f23
    have g17 : ax_i h17 77 24 = b2i (gdr v (l_x T n a) 3) := g17
    have hb : ∀ l, l < lnu v → tkk T n (ps T n a (l + 1)) = 2 := fun l hl => by
      rcases (by omega : l = 0 ∨ l = 1 ∨ l = 2) with rfl | rfl | rfl
      · exact z
      · exact z2
      · exact z3
    have elpx : lpx T n 0 a = .inr (v, 0) := lpx_no ev hb (by omega)
    have k17' : mk_at h17 T n (ps T n a (l_m v)) := by rw [lm4]; exact k17
    have ff : lp_at h17 (l_fp v (l_x T n a) (tks T n a) (l_q T n a) st) := by unfold l_fp; rw [l3]; exact f17
    have pl4 : (l_fp v (l_x T n a) (tks T n a) (l_q T n a) st).1 ≠ 0 → (l_fp v (l_x T n a) (tks T n a) (l_q T n a) st).2 < tks T n (ps T n a (l_m v)) := fun w => by
      rw [lm4]
      have a1 : (l_fp v (l_x T n a) (tks T n a) (l_q T n a) st).2 ≤ tks T n (ps T n a 3) := by
        have w := w
        unfold l_fp at w ⊢
        rw [l3] at w ⊢
        exact p17 w
      have a3 := tks_lt (T := T) (i := 3) ha (by rw [z3]; decide)
      have a3 : tks T n (ps T n a 3) < tks T n (ps T n a 4) := a3
      omega
    obtain ⟨kp, kp6, ekp, -⟩ := tb_n0 ok tb
    refine k1 h17 t17 (fun gd => ⟨by rw [g17, gd]; rfl, ?_⟩) (fun gd => ?_)
    · refine c_end0 L elpx hv11 c0.2.2.2.2.2 (by decide) (mF_mg R17 (by omega)) k17' (fun w => ?_) (fun _ => ⟨kp, kp6, by rw [e88]; exact ekp⟩) ff pl4 hok
      have := gdr_o (l_fp_0 w).2.2
      rw [l3, gd] at this
      cases this
    · have b0 : l_x T n a 0 ≤ 5 := by have := (lbad_f (gdr_t gd 0 (by decide))).2.1; rw [c0.2.1] at this; exact this
      have b1 : l_x T n a 1 ≤ 11 := by have := (lbad_f (gdr_t gd 1 (by decide))).2.1; rw [c0.2.2.2.1] at this; exact this
      have bs2 : bs = 20 ∨ bs = 92 := by rw [eb]; split <;> omega
      refine ⟨by rw [g17, gd]; decide, fun j hj => ?_, b0, b1, ?_⟩
      · rcases (by omega : j = 0 ∨ j = 1 ∨ j = 2) with rfl | rfl | rfl
        · rw [e17, if_neg (by decide), q16]; exact x09
        · rw [e17, if_neg (by decide), q16]; exact x19
        · rw [e17]; rfl
      · have sm : ax_same (fun b => b = 88) h17 (ax_pi h17 88 (bs + 12 * l_x T n a 0 + l_x T n a 1) (nI (l_x T n a 2))) := sm_pi rfl
        have e77 : ∀ j, ax_i (ax_pi h17 88 (bs + 12 * l_x T n a 0 + l_x T n a 1) (nI (l_x T n a 2))) 77 j = ax_i h17 77 j := (sm.2.2.2 77 (by omega)).1
        have l77 : ∀ j, ax_l (ax_pi h17 88 (bs + 12 * l_x T n a 0 + l_x T n a 1) (nI (l_x T n a 2))) 77 j = ax_l h17 77 j := (sm.2.2.2 77 (by omega)).2
        refine c_end0 L elpx hv11 c0.2.2.2.2.2 (by decide) (mF_tr (mF_mg R17 (by omega)) ⟨sm_mono sm (fun b hb => by omega), e77 12⟩) ⟨by rw [e77]; exact k17'.1, by rw [e77]; exact k17'.2.1, by rw [e77]; exact k17'.2.2.1, fun q => by rw [e77]; exact k17'.2.2.2.1 q, fun q => by rw [l77]; exact k17'.2.2.2.2 q⟩ (fun q => ?_) (fun _ => ⟨kp, kp6, by rw [ai_ne (by omega), e88]; exact ekp⟩) ⟨by rw [e77]; exact ff.1, fun q => by rw [e77]; exact ff.2 q⟩ pl4 hok
        obtain ⟨y1, y2, y3, -⟩ := tb.1 (l_fp_0 q).1
        obtain ⟨u1, u2, u3, u4, u5, u6, u7⟩ := y3 rfl
        rcases hv with rfl | rfl
        · have eb : bs = 20 := eb
          subst eb
          refine ⟨by rw [e77, g22, y1]; rfl, by rw [e77, g23, y2]; rfl, ⟨by rw [ai_ne (by omega), e88]; exact u1, by rw [ai_ne (by omega), e88]; exact u2, fun p hp => ?_, fun k hk => by rw [ai_ne (by omega), e88]; exact u4 k hk, fun k hk => by rw [ai_ne (by omega), e88]; exact u5 k hk, fun p q hp hq => ?_, fun p q hp hq => by rw [ai_ne (by omega), e88]; exact u7 p q hp hq⟩⟩
          · have : p < dP (l_D st) := hp
            have := ok.1.2.1
            rw [ai_ne (by omega), e88]; exact u3 p hp
          · show _ = (if p = l_x T n a 0 ∧ q = l_x T n a 1 then nI (l_x T n a 2) else dde (l_D st) p q)
            by_cases e : p = l_x T n a 0 ∧ q = l_x T n a 1
            · rw [if_pos e, e.1, e.2, ai_eq]
            · rw [if_neg e, ai_ne (by omega), e88]; exact u6 p q hp hq
        · have eb : bs = 92 := eb
          subst eb
          refine ⟨by rw [e77, g22, y1]; rfl, by rw [e77, g23, y2]; rfl, ⟨by rw [ai_ne (by omega), e88]; exact u1, by rw [ai_ne (by omega), e88]; exact u2, fun p hp => ?_, fun k hk => by rw [ai_ne (by omega), e88]; exact u4 k hk, fun k hk => by rw [ai_ne (by omega), e88]; exact u5 k hk, fun p q hp hq => by rw [ai_ne (by omega), e88]; exact u6 p q hp hq, fun p q hp hq => ?_⟩⟩
          · have : p < dP (l_D st) := hp
            have := ok.1.2.1
            rw [ai_ne (by omega), e88]; exact u3 p hp
          · show _ = (if p = l_x T n a 0 ∧ q = l_x T n a 1 then nI (l_x T n a 2) else dlo (l_D st) p q)
            by_cases e : p = l_x T n a 0 ∧ q = l_x T n a 1
            · rw [if_pos e, e.1, e.2, ai_eq]
            · rw [if_neg e, ai_ne (by omega), e88]; exact u7 p q hp hq
  have fin : ∀ (bs : Nat) (h17 : ax_H), bs = 20 ∨ bs = 92 → mt_at h17 T n → (∀ j, j < 3 → ax_i h17 89 j = nI (l_x T n a j)) → l_x T n a 0 ≤ 5 → l_x T n a 1 ≤ 11 → Ret (some (.int 1)) (ax_pi h17 88 (bs + 12 * l_x T n a 0 + l_x T n a 1) (nI (l_x T n a 2))) → (ax_s h17 77).1 = 10 ∧ ∃ b21 : Nat, ax_r h17 77 21 = some b21 ∧ (ax_s h17 b21).1 = 11 ∧ vp_in 0 (ax_s h17 b21).2 ∧ (ax_s h17 77).1 = 10 ∧ ∃ b22 : Nat, ax_r h17 77 21 = some b22 ∧ (ax_s h17 b22).1 = 11 ∧ vp_in 1 (ax_s h17 b22).2 ∧ (ax_s h17 77).1 = 10 ∧ ∃ b24 : Nat, ax_r h17 77 21 = some b24 ∧ (ax_s h17 b24).1 = 11 ∧ vp_in 2 (ax_s h17 b24).2 ∧ (ax_s h17 88).1 = 11 ∧ vp_in (nI bs + 12 * ax_i h17 b21 0 + ax_i h17 b22 1) (ax_s h17 88).2 ∧ ((1 : Int32) = 0 ∨ (1 : Int32) = 1) ∧ Ret (some (.int 1)) (ax_pi h17 88 (nI bs + 12 * ax_i h17 b21 0 + ax_i h17 b22 1).toNatClampNeg (ax_i h17 b24 2)) := by
    intro bs h17 hb t17 e89 b0 b1 hR
    obtain ⟨r21, s21⟩ : ax_r h17 77 21 = some 89 ∧ ax_s h17 89 = (11, 3) := t17.1.2 11 _ rfl
    obtain ⟨r20, s20⟩ : ax_r h17 77 20 = some 88 ∧ ax_s h17 88 = (11, 164) := t17.1.2 10 _ rfl
    have ei : nI bs + 12 * ax_i h17 89 0 + ax_i h17 89 1 = nI (bs + 12 * l_x T n a 0 + l_x T n a 1) := by rw [e89 0 (by decide), e89 1 (by decide), show (12 : Int32) = nI 12 from rfl, pk_mul, nI_add, nI_add]
    refine ⟨t17.1.1, 89, r21, sh_k s21, by rw [s21]; exact vp_in_nI (n := 0) (N := 3) (by decide) (by decide), t17.1.1, 89, r21, sh_k s21, by rw [s21]; exact vp_in_nI (n := 1) (N := 3) (by decide) (by decide), t17.1.1, 89, r21, sh_k s21, by rw [s21]; exact vp_in_nI (n := 2) (N := 3) (by decide) (by decide), sh_k s20, by rw [ei, s20]; exact vp_in_nI (by omega) (by decide), Or.inr rfl, ?_⟩
    rw [ei, nI_clamp (by omega), e89 2 (by decide)]
    exact hR
  refine ⟨fun q => ⟨t16.1.1, ?_⟩, fun q => ⟨t16.1.1, ?_⟩⟩
  · have hv4 : v = 4 := by
      rcases hv with rfl | rfl
      · rfl
      · exact absurd q (by decide)
    refine third 5 20 _ (by rw [hv4]; rfl) (by rw [hv4]; rfl) (fun h' hR => ⟨_, rfl, fun y => absurd rfl y, fun _ => ⟨Or.inl rfl, hR⟩⟩) (fun h17 t17 k0 k1 => ⟨_, rfl, fun _ => ⟨t17.1.1, fun y => ⟨Or.inr rfl, ?_⟩, fun y => ?_⟩, fun y => absurd y (by decide)⟩)
    · cases gd : gdr v (l_x T n a) 3 with
      | false => exact (k0 gd).2
      | true => exact absurd y (k1 gd).1
    · cases gd : gdr v (l_x T n a) 3 with
      | false => exact absurd (k0 gd).1 y
      | true =>
        obtain ⟨-, e89, b0, b1, hR⟩ := k1 gd
        obtain ⟨r20, -⟩ : ax_r h17 77 20 = some 88 ∧ ax_s h17 88 = (11, 164) := t17.1.2 10 _ rfl
        exact ⟨t17.1.1, 88, r20, fun _ => fin 20 h17 (Or.inl rfl) t17 e89 b0 b1 hR, fun w => absurd q w⟩
  · have hv5 : v = 5 := by
      rcases hv with rfl | rfl
      · exact absurd rfl q
      · rfl
    refine third 9 92 _ (by rw [hv5]; rfl) (by rw [hv5]; rfl) (fun h' hR => ⟨_, rfl, fun y => absurd rfl y, fun _ => ⟨Or.inl rfl, hR⟩⟩) (fun h17 t17 k0 k1 => ⟨_, rfl, fun _ => ⟨t17.1.1, fun y => ⟨Or.inr rfl, ?_⟩, fun y => ?_⟩, fun y => absurd y (by decide)⟩)
    · cases gd : gdr v (l_x T n a) 3 with
      | false => exact (k0 gd).2
      | true => exact absurd y (k1 gd).1
    · cases gd : gdr v (l_x T n a) 3 with
      | false => exact absurd (k0 gd).1 y
      | true =>
        obtain ⟨-, e89, b0, b1, hR⟩ := k1 gd
        obtain ⟨r20, -⟩ : ax_r h17 77 20 = some 88 ∧ ax_s h17 88 = (11, 164) := t17.1.2 10 _ rfl
        exact ⟨t17.1.1, 88, r20, fun w => absurd w q, fun _ => fin 92 h17 (Or.inr rfl) t17 e89 b0 b1 hR⟩
end
end

section
section
variable {g : ax_G} {Ret : Option Value → ax_H → Prop} {h hh : ax_H} {T : Nat → Int32} {n a v s : Nat} {st : lS}
theorem c_republicLine (L : lb_at h T n a 0 st) (hbad : lbad_K h T n a 0 Ret) (hok : lok_K h T n a 0 st Ret) : mX10_republicLine g [.ref 77, .long (mw T n a), .int (nI (tks T n a))] h Ret := by
  obtain ⟨t, hT, hn, ha, nz, kk, tb, f, fl, pl, e24, ok⟩ := id L
  obtain ⟨b1, b2, b3, -⟩ := tk_bd (T := T) ha
  refine uX10_republicLine (fun A hA => ?_)
  -- behind the verb
  have go69 : ∀ (v : Nat) (hh : ax_H), vb T n 0 a = some v → mf (fun k => k = 18 ∨ k = 19) h hh → lp_at hh (nt (l_f st, l_p st) (ltoo v st) 3 (tks T n a)) → A (69, [some (.ref 77), some (.long (mw T n a)), none, some (.int (nI (tks T n a)))], [], hh, 0, 0) := by
    intro v hh ev r1 f1
    obtain ⟨hv, hs, ew⟩ := vb_w ev
    have v6 : v < 6 := by
      rcases (by omega : v < 6 ∨ v = 6 ∨ v = 7 ∨ v = 8 ∨ v = 9 ∨ v = 10) with w | rfl | rfl | rfl | rfl | rfl
      · exact w
      · exact absurd hs (by decide)
      · exact absurd hs (by decide)
      · exact absurd hs (by decide)
      · exact absurd hs (by decide)
      · exact absurd hs (by decide)
    have cmp : ∀ i, i < 11 → (lg_cmp (mw T n a) (wL (i + 3)) = 0 ↔ v = i) := fun i hi => by
      rw [lg_0, ew]
      constructor
      · intro e
        rcases Nat.lt_or_ge v i with w | w
        · exact absurd e (wL_ne (v + 3) (by omega) (i + 3) (by omega) (by omega))
        · rcases Nat.lt_or_ge i v with y | y
          · exact absurd e (wL_ne (v + 3) (by omega) (i + 3) (by omega) (by omega))
          · omega
      · intro e; rw [e]
    have c_0 := cmp 0 (by decide); have c_1 := cmp 1 (by decide); have c_2 := cmp 2 (by decide); have c_3 := cmp 3 (by decide); have c_4 := cmp 4 (by decide); have c_5 := cmp 5 (by decide)
    rw [show wL (0 + 3) = 448546566771 from wL_c.2.2.2.1] at c_0
    rw [show wL (1 + 3) = 1734437230 from wL_c.2.2.2.2.1] at c_1
    rw [show wL (2 + 3) = 1819243379 from wL_c.2.2.2.2.2.1] at c_2
    rw [show wL (3 + 3) = 123581014175598 from wL_c.2.2.2.2.2.2.1] at c_3
    rw [show wL (4 + 3) = 1685022067 from wL_c.2.2.2.2.2.2.2.1] at c_4
    rw [show wL (5 + 3) = 7106420 from wL_c.2.2.2.2.2.2.2.2.1] at c_5
    have t1 := mf_mt r1 (by omega) t
    refine vX10_republicLine_69 hA ⟨t1.1.1, c_mtoken (a := tkb T n a) t1 hT hn (by rw [r1.2 11 (by omega)]; exact kk.2.1) b3 (fun h6 r6 k6 => ⟨rfl, ?_⟩)⟩
    have t6 := mf_mt r6 (by omega) t1
    have R6 : mg (fun k => k = 18 ∨ k = 19 ∨ k = 24) h h6 := mg_tr (mg_of r1 (fun x hx => Or.inr (by omega))) (mg_of r6 (fun x hx => Or.inl hx))
    have p6 : (nt (l_f st, l_p st) (ltoo v st) 3 (tks T n a)).1 ≠ 0 → (nt (l_f st, l_p st) (ltoo v st) 3 (tks T n a)).2 ≤ tks T n a := fun z => by
      unfold nt at z ⊢
      split
      · exact Nat.le_refl _
      · rename_i y
        rw [if_neg y] at z
        exact Nat.le_of_lt (pl z)
    have f6 : lp_at h6 (nt (l_f st, l_p st) (ltoo v st) 3 (tks T n a)) := ⟨by rw [r6.2 18 (by omega)]; exact f1.1, fun z => by rw [r6.2 19 (by omega)]; exact f1.2 z⟩
    have g6 : ax_i h6 77 24 = 1 := by rw [r6.2 24 (by omega), r1.2 24 (by omega)]; exact e24
    have k6 : mk_at h6 T n (ps T n a 1) := k6
    have B : rb0 h h6 T n a v st := ⟨R6, k6, f6, p6, g6⟩
    have R01 : ∀ {K : Option Value → ax_H → Prop}, (∀ r h', Ret (some (.int r)) h' → (r = 0 ∨ r = 1) → K (some (.int r)) h') → lbad_K h T n a 0 K ∧ lok_K h T n a 0 st K := fun k => ⟨fun p e h' m' e17 => k 0 h' (hbad p e h' m' e17) (Or.inl rfl), fun v md e w1 w2 w3 h' m' k' tb' f' p' => k 1 h' (hok v md e w1 w2 w3 h' m' k' tb' f' p') (Or.inr rfl)⟩
    have kind : (v = 1 ∨ v = 2) → ∀ o3 : Option Value, A (89, [some (.ref 77), some (.long (mw T n a)), none, o3], [], h6, 0, 0) := by
      intro hv12 o3
      refine vX10_republicLine_89 hA ⟨fun q => ⟨t6.1.1, ?_⟩, fun q => ⟨t6.1.1, ?_⟩⟩
      · have e := c_kindLine (g := g) (Ret := fun v9 h8 => ∃ r10 : Int32, v9 = some (.int r10) ∧ (r10 = 0 ∨ r10 = 1) ∧ Ret (some (.int r10)) h8) L hv12 ev B (R01 (fun r h' hR c => ⟨r, rfl, c, hR⟩)).1 (R01 (fun r h' hR c => ⟨r, rfl, c, hR⟩)).2
        rw [if_neg (fun w => q (c_2.mpr w))] at e
        exact e
      · have e := c_kindLine (g := g) (Ret := fun v9 h8 => ∃ r10 : Int32, v9 = some (.int r10) ∧ (r10 = 0 ∨ r10 = 1) ∧ Ret (some (.int r10)) h8) L hv12 ev B (R01 (fun r h' hR c => ⟨r, rfl, c, hR⟩)).1 (R01 (fun r h' hR c => ⟨r, rfl, c, hR⟩)).2
        rw [if_pos (c_2.mp q)] at e
        exact e
    have one : (v = 4 ∨ v = 5) → ∀ o3 : Option Value, A (123, [some (.ref 77), some (.long (mw T n a)), none, o3], [], h6, 0, 0) := by
      intro hv45 o3
      refine vX10_republicLine_123 hA ⟨fun q => ⟨t6.1.1, ?_⟩, fun q => ⟨t6.1.1, ?_⟩⟩
      · have e := c_ofOne (g := g) (Ret := fun v9 h8 => ∃ r10 : Int32, v9 = some (.int r10) ∧ (r10 = 0 ∨ r10 = 1) ∧ Ret (some (.int r10)) h8) L hv45 ev B (R01 (fun r h' hR c => ⟨r, rfl, c, hR⟩)).1 (R01 (fun r h' hR c => ⟨r, rfl, c, hR⟩)).2
        rw [if_neg (fun w => q (c_5.mpr w))] at e
        exact e
      · have e := c_ofOne (g := g) (Ret := fun v9 h8 => ∃ r10 : Int32, v9 = some (.int r10) ∧ (r10 = 0 ∨ r10 = 1) ∧ Ret (some (.int r10)) h8) L hv45 ev B (R01 (fun r h' hR c => ⟨r, rfl, c, hR⟩)).1 (R01 (fun r h' hR c => ⟨r, rfl, c, hR⟩)).2
        rw [if_pos (c_5.mp q)] at e
        exact e
    -- hours, person
    have two : (v = 0 ∨ v = 3) → ∀ (LO HI : Nat) (o3 : Option Value), LO = llo v 0 → HI = lhi v 0 → A (172, [some (.ref 77), some (.long (mw T n a)), none, o3], [.int (nI HI), .int (nI LO), .int 0, .ref 77], h6, 0, 0) := by
      intro hv03 LO HI o3 eL eH
      have l1 : lnu v = 1 := by rcases hv03 with rfl | rfl <;> rfl
      have lm2 : l_m v = 2 := by unfold l_m; rw [if_neg (by omega), l1]
      refine vX10_republicLine_172 hA ⟨t6.1.1, c_takeV (v := v) (i := 0) (LO := LO) (HI := HI) t6 hT hn ha hv (by omega) (by rw [if_neg (by omega)]; exact eL) eH k6 nz f6 (ntf_le fl (by decide)) p6 g6 (fun z h' r' e' => ⟨_, rfl, fun y => absurd rfl y, fun _ => ⟨Or.inl rfl, c_noNum L ev (by omega) (fun l hl => absurd hl (Nat.not_lt_zero l)) hbad (mF_mg R6 (by omega)) z r' e'⟩⟩) (fun z h20 r20 e20 k20 f20 p20 g20 => ⟨_, rfl, fun _ => ?_, fun y => absurd y (by decide)⟩)⟩
      have t20 := mg_mt r20 (by omega) t6
      have R20 : mg (fun k => k = 18 ∨ k = 19 ∨ k = 24) h h20 := mg_tr R6 r20
      have tb20 : tb_at h20 0 st := tb_mg R20 (by omega) tb
      obtain ⟨kp, kp6, ekp, ekp0⟩ := tb_n0 ok tb20
      obtain ⟨q20, s20⟩ : ax_r h20 77 20 = some 88 ∧ ax_s h20 88 = (11, 164) := t20.1.2 10 _ rfl
      obtain ⟨q21, s21⟩ : ax_r h20 77 21 = some 89 ∧ ax_s h20 89 = (11, 3) := t20.1.2 11 _ rfl
      have i0 : vp_in (0 : Int32) (ax_s h20 89).2 := by rw [s21]; exact vp_in_nI (n := 0) (N := 3) (by decide) (by decide)
      have j0 : vp_in (0 : Int32) (ax_s h20 88).2 := by rw [s20]; exact vp_in_nI (n := 0) (N := 164) (by decide) (by decide)
      have j1 : vp_in (1 : Int32) (ax_s h20 88).2 := by rw [s20]; exact vp_in_nI (n := 1) (N := 164) (by decide) (by decide)
      have x0 : ax_i h20 89 0 = nI (l_x T n a 0) := by rw [e20]; rfl
      have elpx : lpx T n 0 a = .inr (v, 0) := lpx_no ev (fun l hl => by rw [show l = 0 by omega]; exact z) (by omega)
      have k20' : mk_at h20 T n (ps T n a (l_m v)) := by rw [lm2]; exact k20
      have ff : lp_at h20 (l_fp v (l_x T n a) (tks T n a) (l_q T n a) st) := by unfold l_fp; rw [l1]; exact f20
      have pl2 : (l_fp v (l_x T n a) (tks T n a) (l_q T n a) st).1 ≠ 0 → (l_fp v (l_x T n a) (tks T n a) (l_q T n a) st).2 < tks T n (ps T n a (l_m v)) := fun w => by
        rw [lm2]
        have a1 : (l_fp v (l_x T n a) (tks T n a) (l_q T n a) st).2 ≤ tks T n (ps T n a 1) := by
          have w := w
          unfold l_fp at w ⊢
          rw [l1] at w ⊢
          exact p20 w
        have a3 : tks T n (ps T n a 1) < tks T n (ps T n a 2) := tks_lt (T := T) (i := 1) ha (by rw [z]; decide)
        omega
      -- a write into the told row
      have fin : ∀ h' : ax_H, ax_same (fun b => b = 88) h20 h' → ((l_fp v (l_x T n a) (tks T n a) (l_q T n a) st).1 = 0 → fq_at h' (l_D (l_tell v (l_x T n a) 0 st))) → (∃ k, k ≤ 6 ∧ ax_i h' 88 1 = nI k) → Ret (some (.int 1)) h' := by
        intro h' sm c1 c2
        have e77 : ∀ j, ax_i h' 77 j = ax_i h20 77 j := (sm.2.2.2 77 (by omega)).1
        have l77 : ∀ j, ax_l h' 77 j = ax_l h20 77 j := (sm.2.2.2 77 (by omega)).2
        refine c_end0 L elpx hv hs (by decide) (mF_tr (mF_mg R20 (by omega)) ⟨sm_mono sm (fun b hb => by omega), e77 12⟩) ⟨by rw [e77]; exact k20'.1, by rw [e77]; exact k20'.2.1, by rw [e77]; exact k20'.2.2.1, fun q => by rw [e77]; exact k20'.2.2.2.1 q, fun q => by rw [l77]; exact k20'.2.2.2.2 q⟩ (fun q => ?_) (fun _ => c2) ⟨by rw [e77]; exact ff.1, fun q => by rw [e77]; exact ff.2 q⟩ pl2 hok
        obtain ⟨y1, y2, -, -⟩ := tb20.1 (l_fp_0 q).1
        refine ⟨?_, ?_, c1 q⟩
        · rw [e77, y1]; rcases hv03 with rfl | rfl <;> rfl
        · rw [e77, y2]; rcases hv03 with rfl | rfl <;> rfl
      refine ⟨fun q => ?_, fun q => ?_⟩
      · have v3 : v = 3 := by
          rcases hv03 with rfl | rfl
          · exact absurd (c_0.mpr rfl) q
          · rfl
        subst v3
        refine ⟨t20.1.1, 88, q20, sh_k s20, j1, fun q2 => ⟨Or.inr rfl, ?_⟩, fun q2 => ⟨t20.1.1, 88, q20, t20.1.1, 88, q20, sh_k s20, j1, t20.1.1, 89, q21, sh_k s21, i0, sh_k s20, ?_, t20.1.1, 88, q20, ⟨rfl, rfl⟩, sh_k s20, j1, sh_k s20, j1, Or.inr rfl, ?_⟩⟩
        · rw [ekp] at q2
          have q2 := (nI_leI (a := 6) (b := kp) (by decide) (by omega)).mp q2
          refine fin h20 sm_rf (fun w => ?_) ⟨kp, kp6, ekp⟩
          have := ekp0 (l_fp_0 w).1
          have := of_decide_eq_false (show decide (6 ≤ dP (l_D st)) = false from (l_fp_0 w).2.1)
          omega
        · rw [ekp] at q2
          have q2 := Nat.not_le.mp (fun w => q2 (nI_le (a := 6) (b := kp) w (by omega)))
          rw [ekp, show (2 : Int32) + nI kp = nI (2 + kp) from ni_c 2 kp, s20]; exact vp_in_nI (by omega) (by decide)
        · rw [ekp] at q2
          have q2 := Nat.not_le.mp (fun w => q2 (nI_le (a := 6) (b := kp) w (by omega)))
          rw [ekp, show (2 : Int32) + nI kp = nI (2 + kp) from ni_c 2 kp, nI_clamp (by omega), x0, ai_ne (h := h20) (a := 88) (b := 88) (j := 1) (by omega), ekp, ← nI_succ]
          refine fin _ (sm_tr (sm_pi rfl) (sm_pi rfl)) (fun w => ?_) ⟨kp + 1, by omega, ai_eq⟩
          have kd := ekp0 (l_fp_0 w).1
          obtain ⟨-, -, y3, -⟩ := tb20.1 (l_fp_0 w).1
          obtain ⟨u1, u2, u3, u4, u5, u6, u7⟩ := y3 rfl
          refine ⟨by rw [ai_ne (by omega), ai_ne (by omega)]; exact u1, by rw [ai_eq, kd]; rfl, fun p hp => ?_, fun k hk => by rw [ai_ne (by omega), ai_ne (by omega)]; exact u4 k hk, fun k hk => by rw [ai_ne (by omega), ai_ne (by omega)]; exact u5 k hk, fun p q hp hq => by rw [ai_ne (by omega), ai_ne (by omega)]; exact u6 p q hp hq, fun p q hp hq => by rw [ai_ne (by omega), ai_ne (by omega)]; exact u7 p q hp hq⟩
          have hp : p < dP (l_D st) + 1 := hp
          rw [ai_ne (by omega)]
          show _ = (if p = dP (l_D st) then nI (l_x T n a 0) else dpu (l_D st) p)
          by_cases e : p = dP (l_D st)
          · rw [if_pos e, e, ← kd, ai_eq]
          · rw [if_neg e, ai_ne (by omega)]; exact u3 p (by omega)
      · have v0 : v = 0 := c_0.mp q
        subst v0
        refine ⟨t20.1.1, 88, q20, t20.1.1, 89, q21, sh_k s21, i0, sh_k s20, j0, Or.inr rfl, ?_⟩
        rw [x0]
        refine fin _ (sm_pi rfl) (fun w => ?_) ⟨kp, kp6, by rw [ai_ne (by omega)]; exact ekp⟩
        obtain ⟨-, -, y3, -⟩ := tb20.1 (l_fp_0 w).1
        obtain ⟨u1, u2, u3, u4, u5, u6, u7⟩ := y3 rfl
        exact ⟨by rw [ai_eq]; rfl, by rw [ai_ne (by omega)]; exact u2, fun p hp => by rw [ai_ne (by omega)]; exact u3 p hp, fun k hk => by rw [ai_ne (by omega)]; exact u4 k hk, fun k hk => by rw [ai_ne (by omega)]; exact u5 k hk, fun p q hp hq => by rw [ai_ne (by omega)]; exact u6 p q hp hq, fun p q hp hq => by rw [ai_ne (by omega)]; exact u7 p q hp hq⟩
    refine ⟨fun q => kind (Or.inl (c_1.mp q)) _, fun q1 => ⟨fun q2 => ⟨fun q4 => one (Or.inl (c_4.mp q4)) _, fun q4 => ⟨fun q5 => ⟨fun q0 => ?_, fun q0 => ?_⟩, fun q5 => one (Or.inr (c_5.mp q5)) _⟩⟩, fun q2 => kind (Or.inr (c_2.mp q2)) _⟩⟩
    · have v3 : v = 3 := by
        have n1 : v ≠ 1 := fun w => q1 (c_1.mpr w)
        have n2 : v ≠ 2 := fun w => q2 (c_2.mpr w)
        have n4 : v ≠ 4 := fun w => q4 (c_4.mpr w)
        have n5 : v ≠ 5 := fun w => q5 (c_5.mpr w)
        have n0 : v ≠ 0 := fun w => q0 (c_0.mpr w)
        omega
      refine vX10_republicLine_156 hA ⟨fun _ => two (Or.inr v3) 0 999 _ (by rw [v3]; rfl) (by rw [v3]; rfl), fun w => absurd w q0⟩
    · have v0 : v = 0 := c_0.mp q0
      refine vX10_republicLine_156 hA ⟨fun w => absurd q0 w, fun _ => two (Or.inl v0) 2 12 _ (by rw [v0]; rfl) (by rw [v0]; rfl)⟩
  -- the verb is there
  have go53 : ∀ v, v < 6 → lg_cmp (mw T n a) (wL (v + 3)) = 0 → A (53, [some (.ref 77), some (.long (mw T n a)), none, some (.int (nI (tks T n a)))], [], h, 0, 0) := by
    intro v v6 ec
    have ew := lg_0.mp ec
    have ev : vb T n 0 a = some v := vb_of (by omega) ew (by
      rcases (by omega : v = 0 ∨ v = 1 ∨ v = 2 ∨ v = 3 ∨ v = 4 ∨ v = 5) with rfl | rfl | rfl | rfl | rfl | rfl <;> rfl)
    refine vX10_republicLine_53 hA ⟨fun q => go69 v h ev mf_rf ?_, fun q => ⟨t.1.1, ?_⟩⟩
    · have nv3 : v ≠ 3 := fun w => q (by rw [lg_0, ew, w]; exact wL_c.2.2.2.2.2.2.1)
      have lf : ltoo v st = false := by
        unfold ltoo
        rw [if_neg nv3, if_pos]
        rcases (by omega : v = 0 ∨ v = 1 ∨ v = 2 ∨ v = 3 ∨ v = 4 ∨ v = 5) with rfl | rfl | rfl | rfl | rfl | rfl <;> rfl
      rw [lf, nt_f]; exact f
    · have v3 : v = 3 := by
        have e3 := lg_0.mp q
        rw [ew, ← wL_c.2.2.2.2.2.2.1] at e3
        by_cases w : v = 3
        · exact w
        · exact absurd e3 (wL_ne (v + 3) (by omega) 6 (by decide) (by omega))
      subst v3
      obtain ⟨kp, kp6, ekp, ekp0⟩ := tb_n0 ok tb
      refine c_full2 (cnt := 1) (most := 6) t.1 (by decide) ekp kp6 (by decide) f fl (by omega) pl (fun h4 r4 f4 => ⟨rfl, go69 3 h4 ev r4 ?_⟩)
      rw [nt_too3 kp6 ekp0] at f4
      exact f4
  have w0 : wL (0 + 3) = 448546566771 := wL_c.2.2.2.1
  have w1 : wL (1 + 3) = 1734437230 := wL_c.2.2.2.2.1
  have w2 : wL (2 + 3) = 1819243379 := wL_c.2.2.2.2.2.1
  have w3 : wL (3 + 3) = 123581014175598 := wL_c.2.2.2.2.2.2.1
  have w4 : wL (4 + 3) = 1685022067 := wL_c.2.2.2.2.2.2.2.1
  have w5 : wL (5 + 3) = 7106420 := wL_c.2.2.2.2.2.2.2.2.1
  refine vX10_republicLine_0 hA ⟨fun q => go53 0 (by decide) (by rw [w0]; exact q), fun q0 => ⟨fun q => go53 1 (by decide) (by rw [w1]; exact q), fun q1 => ⟨fun q => go53 2 (by decide) (by rw [w2]; exact q), fun q2 => ⟨fun q => go53 3 (by decide) (by rw [w3]; exact q), fun q3 => ⟨fun q => go53 4 (by decide) (by rw [w4]; exact q), fun q4 => ⟨fun q => go53 5 (by decide) (by rw [w5]; exact q), fun q5 => ⟨t.1.1, c_noVerb L ?_ hbad⟩⟩⟩⟩⟩⟩⟩
  cases ev : vb T n 0 a with
  | none => rfl
  | some w =>
    obtain ⟨z1, z2, z3⟩ := vb_w ev
    rcases (by omega : w = 0 ∨ w = 1 ∨ w = 2 ∨ w = 3 ∨ w = 4 ∨ w = 5 ∨ w = 6 ∨ w = 7 ∨ w = 8 ∨ w = 9 ∨ w = 10) with rfl | rfl | rfl | rfl | rfl | rfl | rfl | rfl | rfl | rfl | rfl
    · exact absurd (lg_0.mpr (by rw [z3]; exact w0)) q0
    · exact absurd (lg_0.mpr (by rw [z3]; exact w1)) q1
    · exact absurd (lg_0.mpr (by rw [z3]; exact w2)) q2
    · exact absurd (lg_0.mpr (by rw [z3]; exact w3)) q3
    · exact absurd (lg_0.mpr (by rw [z3]; exact w4)) q4
    · exact absurd (lg_0.mpr (by rw [z3]; exact w5)) q5
    · exact absurd z2 (by decide)
    · exact absurd z2 (by decide)
    · exact absurd z2 (by decide)
    · exact absurd z2 (by decide)
    · exact absurd z2 (by decide)
end
end

section
section
variable {g : ax_G} {Ret : Option Value → ax_H → Prop} {h hh : ax_H} {T : Nat → Int32} {n a v s : Nat} {st : lS}
theorem c_lineOf (L : lb_at h T n a s st) (hs : s < 5) (hbad : lbad_K h T n a s Ret) (hok : lok_K h T n a s st Ret) : mX10_lineOf g [.ref 77, .int (nI s), .long (mw T n a), .int (nI (tks T n a))] h Ret := by
  have m := L.1.1.1
  have b0 : lbad_K h T n a s (fun v2 h1 => ∃ r3 : Int32, v2 = some (.int r3) ∧ (r3 = 0 ∨ r3 = 1) ∧ Ret (some (.int r3)) h1) := fun p e h' m' e17 => ⟨_, rfl, Or.inl rfl, hbad p e h' m' e17⟩
  have k0 : lok_K h T n a s st (fun v2 h1 => ∃ r3 : Int32, v2 = some (.int r3) ∧ (r3 = 0 ∨ r3 = 1) ∧ Ret (some (.int r3)) h1) := fun v md e w1 w2 w3 h' m' k' tb' f' p' => ⟨_, rfl, Or.inr rfl, hok v md e w1 w2 w3 h' m' k' tb' f' p'⟩
  rcases (by omega : s = 0 ∨ s = 1 ∨ s = 2 ∨ s = 3 ∨ s = 4) with rfl | rfl | rfl | rfl | rfl
  · exact eX10_lineOf ⟨fun _ => ⟨m, c_republicLine L b0 k0⟩, fun q => absurd rfl q⟩
  · exact eX10_lineOf ⟨fun q => absurd q (by decide), fun _ => ⟨fun _ => ⟨m, c_weekLine L b0 k0⟩, fun q => absurd rfl q⟩⟩
  · exact eX10_lineOf ⟨fun q => absurd q (by decide), fun _ => ⟨fun q => absurd q (by decide), fun _ => ⟨fun _ => ⟨m, c_errandLine L b0 k0⟩, fun q => absurd rfl q⟩⟩⟩
  · exact eX10_lineOf ⟨fun q => absurd q (by decide), fun _ => ⟨fun q => absurd q (by decide), fun _ => ⟨fun q => absurd q (by decide), fun _ => ⟨fun _ => ⟨m, c_trainLine L b0 k0⟩, fun q => absurd rfl q⟩⟩⟩⟩
  · exact eX10_lineOf ⟨fun q => absurd q (by decide), fun _ => ⟨fun q => absurd q (by decide), fun _ => ⟨fun q => absurd q (by decide), fun _ => ⟨fun q => absurd q (by decide), fun _ => ⟨m, c_sightLine L b0 k0⟩⟩⟩⟩⟩
theorem tks_end (ha : a ≤ n) (e : tkk T n a = 0) : tks T n a = n := by
  obtain ⟨b1, b2, b3, -⟩ := tk_bd (T := T) ha
  rcases Nat.lt_or_ge (tks T n a) n with z | z
  · unfold tkk at e
    rw [if_pos z] at e
    split at e
    · cases e
    · split at e
      · split at e <;> cases e
      · split at e <;> cases e
  · omega
theorem ps_tks {i : Nat} (ha : a ≤ n) : tks T n (ps T n a i) ≤ ps T n a (i + 1) := by
  obtain ⟨b1, b2, -, -⟩ := tk_bd (T := T) (ps_le (T := T) ha i).2
  exact b2
theorem c_mlines (t : mt_at h T n) (hT : tyb T) (hn : n ≤ 600) (hs : s < 5) (kk : mk_at h T n 0) (tb : tb_at h s l_st0) (f : lp_at h (0, 0))
    (hbad : ∀ p, txf T n s 601 0 l_st0 = .inl p → ∀ h', mF h h' → ax_i h' 77 17 = nI p → Ret (some (.int 0)) h')
    (hok : ∀ st, txf T n s 601 0 l_st0 = .inr st → okL s st → l_f st ≤ 4 → ∀ h', mF h h' → tb_at h' s st → lp_at h' (l_f st, l_p st) → (l_f st ≠ 0 → l_p st < n) → ax_i h' 77 13 = nI n → Ret (some (.int 1)) h') : mX10_lines g [.ref 77, .int (nI s)] h Ret := by
  refine uX10_lines (fun A hA => vX10_lines_0 hA ?_)
  have bad : ∀ (hh : ax_H) (p : Nat) (o3 : Option Value), txf T n s 601 0 l_st0 = .inl p → mF h hh → ax_i hh 77 17 = nI p → A (2, [some (.ref 77), some (.int (nI s)), some (.int 0), o3], [], hh, 0, 0) := fun hh p o3 e m e17 => vX10_lines_2 hA ⟨fun _ => ⟨Or.inl rfl, hbad p e hh m e17⟩, fun q => absurd rfl q⟩
  have key : ∀ m i : Nat, i + m = 601 → ∀ (hh : ax_H) (p : Nat) (st : lS) (o3 : Option Value), i ≤ p → p ≤ n → mF h hh → mk_at hh T n p → tb_at hh s st → lp_at hh (l_f st, l_p st) → okL s st → l_f st ≤ 4 → (l_f st ≠ 0 → l_p st < tks T n p) → txf T n s m p st = txf T n s 601 0 l_st0 → A (2, [some (.ref 77), some (.int (nI s)), some (.int 1), o3], [], hh, 0, 0) := by
    intro m
    induction m with
    | zero => intro i hi hh p st o3 hip hpn; omega
    | succ m ih =>
      intro i hi hh p st o3 hip hpn M k tb f ok hf pl ex
      have ex : (if tkk T n p = 0 then .inr st else match lsx T n s p with
        | .inl p => .inl p
        | .inr (v, md) => txf T n s m (ps T n p (l_m v + 1)) (l_line v (l_x T n p) md (tks T n p) (l_q T n p) st)) = txf T n s 601 0 l_st0 := ex
      have t1 := mF_mt M t
      refine vX10_lines_2 hA ⟨fun q => absurd q (by decide), fun _ => ⟨t1.1.1, fun q => ⟨Or.inr rfl, ?_⟩, fun q => ⟨t1.1.1, Or.inr rfl, t1.1.1, t1.1.1, ?_⟩⟩⟩
      · have e0 : tkk T n p = 0 := (mkd_0 tkk_le).mp (by rw [← k.2.2.1]; exact q)
        rw [if_pos e0] at ex
        have en := tks_end hpn e0
        exact hok st ex.symm ok hf hh M tb f (fun z => by have := pl z; omega) (by rw [k.1, en])
      · have ne0 : tkk T n p ≠ 0 := fun z => q (by rw [k.2.2.1]; exact (mkd_0 tkk_le).mpr z)
        rw [if_neg ne0, lsx_lpx] at ex
        rw [k.1]
        have m1 : mf (fun k => k = 24) hh (ax_pi hh 77 24 1) := mf_pi rfl
        have t2 := mf_mt m1 (by omega) t1
        have L1 : lb_at (ax_pi hh 77 24 1) T n p s st := ⟨t2, hT, hn, hpn, ne0, ⟨by rw [ai_ne (by omega)]; exact k.1, by rw [ai_ne (by omega)]; exact k.2.1, by rw [ai_ne (by omega)]; exact k.2.2.1, fun z => by rw [ai_ne (by omega)]; exact k.2.2.2.1 z, fun z => k.2.2.2.2 z⟩, tb_mg (mg_of (J' := fun k => k = 24) m1 (fun x hx => Or.inr hx)) (by omega) tb, ⟨by rw [ai_ne (by omega)]; exact f.1, fun z => by rw [ai_ne (by omega)]; exact f.2 z⟩, hf, pl, ai_eq, ok⟩
        have M1 : mF h (ax_pi hh 77 24 1) := mF_tr M (mF_mg (mg_of (J' := fun k => k = 24) m1 (fun x hx => Or.inr hx)) (by omega))
        have k1 : mk_at (ax_pi hh 77 24 1) T n p := L1.2.2.2.2.2.1
        revert t2 L1 M1 k1
        generalize ax_pi hh 77 24 1 = h1
        intro t2 L1 M1 k1
        -- the line, by its word
        have line : ∀ w : Int64, w = mw T n p → mX10_lineOf g [.ref 77, .int (nI s), .long w, .int (nI (tks T n p))] h1 (fun v3 h2 => ∃ r4 : Int32, v3 = some (.int r4) ∧ (r4 = 0 → (r4 = 0 → A (2, [some (.ref 77), some (.int (nI s)), some (.int r4), some (.int (nI (tks T n p)))], [], h2, 0, 0)) ∧ (¬ r4 = 0 → (ax_s h2 77).1 = 10 ∧ mX10_token g [.ref 77] h2 (fun v6 h5 => v6 = none ∧ A (2, [some (.ref 77), some (.int (nI s)), some (.int r4), some (.int (nI (tks T n p)))], [], h5, 0, 0)))) ∧ (¬ r4 = 0 → (ax_s h2 77).1 = 10 ∧ (ax_i h2 77 14 = 4 → (r4 = 0 → A (2, [some (.ref 77), some (.int (nI s)), some (.int r4), some (.int (nI (tks T n p)))], [], h2, 0, 0)) ∧ (¬ r4 = 0 → (ax_s h2 77).1 = 10 ∧ mX10_token g [.ref 77] h2 (fun v8 h7 => v8 = none ∧ A (2, [some (.ref 77), some (.int (nI s)), some (.int r4), some (.int (nI (tks T n p)))], [], h7, 0, 0)))) ∧ (¬ ax_i h2 77 14 = 4 → (ax_s h2 77).1 = 10 ∧ mX10_fails g [.ref 77] h2 (fun v10 h9 => ∃ r11 : Int32, v10 = some (.int r11) ∧ (r11 = 0 → A (2, [some (.ref 77), some (.int (nI s)), some (.int r11), some (.int (nI (tks T n p)))], [], h9, 0, 0)) ∧ (¬ r11 = 0 → (ax_s h9 77).1 = 10 ∧ mX10_token g [.ref 77] h9 (fun v13 h12 => v13 = none ∧ A (2, [some (.ref 77), some (.int (nI s)), some (.int r11), some (.int (nI (tks T n p)))], [], h12, 0, 0))))))) := by
          intro w ew
          rw [ew]
          refine c_lineOf L1 hs (fun pl' el h2 M2 e17 => ⟨_, rfl, fun _ => ⟨fun _ => bad h2 pl' _ ?_ (mF_tr M1 M2) e17, fun y => absurd rfl y⟩, fun y => absurd rfl y⟩) (fun v md el hv hvs hmd h2 M2 k2 tb2 f2 p2 => ⟨_, rfl, fun y => absurd y (by decide), fun _ => ⟨(mF_mt M2 t2).1.1, fun y => ⟨fun x => absurd x (by decide), fun _ => ⟨(mF_mt M2 t2).1.1, ?_⟩⟩, fun y => ⟨(mF_mt M2 t2).1.1, ?_⟩⟩⟩)
          · rw [el] at ex; exact ex.symm
          · have t3 := mF_mt M2 t2
            have e3 : tkk T n (ps T n p (l_m v)) = 3 := (mkd_4 tkk_le).mp (by rw [← k2.2.2.1]; exact y)
            rw [el] at ex
            dsimp only at ex
            rw [if_pos e3] at ex
            dsimp only at ex
            obtain ⟨l1, l2⟩ := lsx_ps (v := v) (md := md) hpn ne0
            refine c_mnext t3 hT hn (ps_le hpn (l_m v)).2 k2 (fun h7 r7 k7 => ⟨rfl, ?_⟩)
            have k7 : mk_at h7 T n (ps T n p (l_m v + 1)) := k7
            refine ih (i + 1) (by omega) h7 (ps T n p (l_m v + 1)) _ _ (by omega) l2 (mF_tr M1 (mF_tr M2 (mF_mg (mg_of (J' := fun _ => False) r7 (fun x hx => Or.inl hx)) (by simp)))) k7 (tb_mg (mg_of (J' := fun _ => False) r7 (fun x hx => Or.inl hx)) (by simp) tb2) ⟨by rw [r7.2 18 (by omega)]; exact f2.1, fun z => by rw [r7.2 19 (by omega)]; exact f2.2 z⟩ (okL_line ok hv hvs hmd) (l_line_le hf) (fun z => ?_) ex
            have a1 := p2 z
            have a2 := tks_lt (T := T) (i := l_m v) hpn (by rw [e3]; decide)
            omega
          · have t3 := mF_mt M2 t2
            have e3 : ¬ tkk T n (ps T n p (l_m v)) = 3 := fun z => y (by rw [k2.2.2.1]; exact (mkd_4 tkk_le).mpr z)
            rw [el] at ex
            dsimp only at ex
            rw [if_neg e3] at ex
            dsimp only at ex
            refine c_mfails t3.1.1 (fun h9 r9 e9 => ⟨_, rfl, fun _ => bad h9 _ _ ex.symm (mF_tr M1 (mF_tr M2 (mF_mg (mg_of (J' := fun k => k = 17) r9 (fun x hx => Or.inr hx)) (by omega)))) ?_, fun y => absurd rfl y⟩)
            rw [e9]; exact k2.1
        refine ⟨fun q2 => ⟨t2.1.1, line 0 ?_⟩, fun q2 => ⟨t2.1.1, t2.1.1, line _ ?_⟩⟩
        · have : ¬ tkk T n p = 1 := fun z => q2 (by rw [k1.2.2.1]; exact (mkd_2 tkk_le).mpr z)
          unfold mw; rw [if_neg this]
        · have : tkk T n p = 1 := (mkd_2 tkk_le).mp (by rw [← k1.2.2.1]; exact q2)
          unfold mw; rw [if_pos this]; exact k1.2.2.2.2 this
  exact key 601 0 (by omega) h 0 l_st0 _ (Nat.le_refl _) (Nat.zero_le _) ⟨sm_rf, rfl⟩ kk tb f okL_0 (by decide) (fun z => absurd rfl z) rfl
end
end

section
section
variable {g : ax_G} {Ret : Option Value → ax_H → Prop} {h : ax_H} {T : Nat → Int32} {n : Nat}
theorem c_mreadText {s : Nat} (m : mo_st h 77) (hT : tyb T) (hn : n ≤ 600) (et : ∀ i, i < 600 → ax_i h 78 i = T i) (hs5 : s < 5) (e12 : ax_i h 77 12 = nI n) (hq : ∀ h', ax_same mr_F h h' → (∀ i, 1 ≤ i → ax_i h' 80 i = ax_i h 80 i ∧ ax_i h' 81 i = ax_i h 81 i) → mr_at h' s (rdT T n s) → Ret (some (.int (b2i (decide (r_f (rdT T n s) = 0))))) h') : mX10_readText g [.ref 77, .int (nI s)] h Ret := by
  refine uX10_readText (fun A hA => vX10_readText_0 hA ?_)
  have i0 : vp_in (0 : Int32) 164 := vp_in_nI (n := 0) (N := 164) (by decide) (by decide)
  have i1 : vp_in (1 : Int32) 164 := vp_in_nI (n := 1) (N := 164) (by decide) (by decide)
  have i4 : vp_in (0 : Int32) 4 := vp_in_nI (n := 0) (N := 4) (by decide) (by decide)
  have s0 : nI s = 0 ↔ s = 0 := nI_eq (b := 0) (by omega) (by decide)
  -- the end: fault and place are kept
  have fin : ∀ (h9 : ax_H) (x2 F P : Int32) (o1 : Option Value), ax_same mr_F h h9 → (∀ i, ax_i h9 80 i = ax_i h 80 i ∧ ax_i h9 81 i = ax_i h 81 i) → (x2 = 0 → F = 1 ∧ P = ax_i h9 77 17) → (¬ x2 = 0 → F = ax_i h9 77 18 ∧ (F ≤ 0 → P = -1) ∧ (¬ F ≤ 0 → P = ax_i h9 77 19)) → F = r_f (rdT T n s) → P = r_p (rdT T n s) → (F = 0 → (s = 0 → rq_at h9 (r_D (rdT T n s))) ∧ (1 ≤ s → rl_at h9 s (r_N (rdT T n s)) (r_C (rdT T n s)))) → A (146, [some (.ref 77), o1, some (.int x2)], [], h9, 0, 0) := by
    intro h9 x2 F P o1 S9 e80 c0 c1 eF eP tell
    have m9 := mo_st_same S9 m
    obtain ⟨r3, s3⟩ : ax_r h9 77 3 = some 80 ∧ ax_s h9 80 = (11, 4) := m9.2 2 _ rfl
    obtain ⟨r4, s4⟩ : ax_r h9 77 4 = some 81 ∧ ax_s h9 81 = (11, 4) := m9.2 3 _ rfl
    have i80 : vp_in (0 : Int32) (ax_s h9 80).2 := by rw [s3]; exact i4
    have i81 : vp_in (0 : Int32) (ax_s h9 81).2 := by rw [s4]; exact i4
    have last : ∀ o2 : Option Value, A (195, [some (.ref 77), o1, o2], [.int P, .int 0, .ref 81], ax_pi h9 80 0 F, 0, 0) := by
      intro o2
      have e88 : ∀ k, ax_i (ax_pi (ax_pi h9 80 0 F) 81 0 P) 88 k = ax_i h9 88 k := fun k => by rw [ai_ne (by omega), ai_ne (by omega)]
      have done : Ret (some (.int (b2i (decide (r_f (rdT T n s) = 0))))) (ax_pi (ax_pi h9 80 0 F) 81 0 P) := by
        refine hq _ (sm_tr (sm_tr S9 (sm_pi (by unfold mr_F; omega))) (sm_pi (by unfold mr_F; omega))) (fun i hi => ⟨by rw [ai_ne (by omega), ai_ne (by omega)]; exact (e80 i).1, by rw [ai_ne (by omega), ai_ne (by omega)]; exact (e80 i).2⟩) ⟨by rw [ai_ne (by omega), ai_eq]; exact eF, by rw [ai_eq]; exact eP, fun z => ?_⟩
        obtain ⟨t1, t2⟩ := tell (by rw [eF]; exact z)
        refine ⟨fun y => ?_, fun y => ?_⟩
        · have := t1 y
          unfold rq_at at this ⊢
          simp only [e88]
          exact this
        · have := t2 y
          unfold rl_at at this ⊢
          simp only [e88]
          exact this
      refine vX10_readText_195 hA ⟨sh_k s4, i81, m9.1, 80, r3, sh_k s3, i80, fun q => ⟨Or.inl rfl, ?_⟩, fun q => ⟨Or.inr rfl, ?_⟩⟩
      · rw [c0_0] at q ⊢
        rw [ai_ne (by omega), ai_eq, eF] at q
        rw [decide_eq_false q] at done; exact done
      · rw [c0_0] at q ⊢
        rw [ai_ne (by omega), ai_eq, eF] at q
        rw [decide_eq_true q] at done; exact done
    have e18 : ax_i (ax_pi h9 80 0 F) 77 18 = ax_i h9 77 18 := ai_ne (by omega)
    have e19 : ax_i (ax_pi h9 80 0 F) 77 19 = ax_i h9 77 19 := ai_ne (by omega)
    have e17 : ax_i (ax_pi h9 80 0 F) 77 17 = ax_i h9 77 17 := ai_ne (by omega)
    refine vX10_readText_146 hA ⟨m9.1, 80, r3, fun q => ?_, fun q => ⟨m9.1, ?_⟩⟩
    · obtain ⟨a1, a2⟩ := c0 q
      refine vX10_readText_163 hA ⟨sh_k s3, i80, m9.1, 81, r4, fun z => absurd q z, fun _ => ⟨m9.1, ?_⟩⟩
      rw [c0_0]
      have := last (some (.int x2))
      rw [a2, ← e17, a1] at this
      rw [a1] at e17
      exact this
    · obtain ⟨a1, a2, a3⟩ := c1 q
      rw [← a1]
      refine vX10_readText_163 hA ⟨sh_k s3, i80, m9.1, 81, r4, fun _ => ⟨m9.1, fun y => ?_, fun y => ⟨m9.1, ?_⟩⟩, fun z => absurd z q⟩
      · rw [c0_0] at y ⊢
        rw [e18, ← a1] at y
        have := last (some (.int x2))
        rw [a2 y] at this
        exact this
      · rw [c0_0] at y ⊢
        rw [e18, ← a1] at y
        have := last (some (.int x2))
        rw [a3 y, ← e19] at this
        exact this
  have B : ∀ (hh : ax_H) (v x2 : Int32), ax_same (fun x => x = 88) h hh → (∀ k, k < 164 → ax_i hh 88 k = tini s k) → v = (if s = 0 then 8 else 0) → A (65, [some (.ref 77), some (.int (nI s)), some (.int x2)], [.int v, .int 0, .ref 88], hh, 0, 0) := by
    intro hh v x2 hs row hv
    have m1 := mo_st_same hs m
    obtain ⟨r20, s20⟩ : ax_r hh 77 20 = some 88 ∧ ax_s hh 88 = (11, 164) := m1.2 10 _ rfl
    refine vX10_readText_65 hA ⟨sh_k s20, by rw [s20]; exact i0, m1.1, m1.1, m1.1, m1.1, m1.1, ?_⟩
    rw [c0_0]
    have S8 : ax_same (fun x => x = 77 ∨ x = 88) h (ax_pi (ax_pi (ax_pi (ax_pi (ax_pi hh 88 0 v) 77 22 (-1)) 77 23 (-1)) 77 11 0) 77 18 0) := sm_tr (sm_tr (sm_tr (sm_tr (sm_tr (sm_mono hs (fun x hx => Or.inr hx)) (sm_pi (Or.inr rfl))) (sm_pi (Or.inl rfl))) (sm_pi (Or.inl rfl))) (sm_pi (Or.inl rfl))) (sm_pi (Or.inl rfl))
    have E12 : ax_i (ax_pi (ax_pi (ax_pi (ax_pi (ax_pi hh 88 0 v) 77 22 (-1)) 77 23 (-1)) 77 11 0) 77 18 0) 77 12 = nI n := by rw [ai_ne (by omega), ai_ne (by omega), ai_ne (by omega), ai_ne (by omega), ai_ne (by omega), (hs.2.2.2 77 (by omega)).1]; exact e12
    have E11 : ax_i (ax_pi (ax_pi (ax_pi (ax_pi (ax_pi hh 88 0 v) 77 22 (-1)) 77 23 (-1)) 77 11 0) 77 18 0) 77 11 = nI 0 := by rw [ai_ne (by omega), ai_eq]; rfl
    have E18 : ax_i (ax_pi (ax_pi (ax_pi (ax_pi (ax_pi hh 88 0 v) 77 22 (-1)) 77 23 (-1)) 77 11 0) 77 18 0) 77 18 = 0 := ai_eq
    have E22 : ax_i (ax_pi (ax_pi (ax_pi (ax_pi (ax_pi hh 88 0 v) 77 22 (-1)) 77 23 (-1)) 77 11 0) 77 18 0) 77 22 = -1 := by rw [ai_ne (by omega), ai_ne (by omega), ai_ne (by omega), ai_eq]
    have E23 : ax_i (ax_pi (ax_pi (ax_pi (ax_pi (ax_pi hh 88 0 v) 77 22 (-1)) 77 23 (-1)) 77 11 0) 77 18 0) 77 23 = -1 := by rw [ai_ne (by omega), ai_ne (by omega), ai_eq]
    have E88 : ∀ k, k < 164 → ax_i (ax_pi (ax_pi (ax_pi (ax_pi (ax_pi hh 88 0 v) 77 22 (-1)) 77 23 (-1)) 77 11 0) 77 18 0) 88 k = if k = 0 then v else tini s k := by
      intro k hk
      rw [ai_ne (by omega), ai_ne (by omega), ai_ne (by omega), ai_ne (by omega)]
      by_cases e : k = 0
      · rw [if_pos e, e, ai_eq]
      · rw [if_neg e, ai_ne (by omega)]; exact row k hk
    revert S8 E12 E11 E18 E22 E23 E88
    generalize ax_pi (ax_pi (ax_pi (ax_pi (ax_pi hh 88 0 v) 77 22 (-1)) 77 23 (-1)) 77 11 0) 77 18 0 = h8
    intro S8 E12 E11 E18 E22 E23 E88
    have m8 := mo_st_same S8 m
    have t8 : mt_at h8 T n := ⟨m8, fun i hi => by rw [(S8.2.2.2 78 (by omega)).1]; exact et i hi, E12⟩
    refine c_mtoken (a := 0) t8 hT hn E11 (Nat.zero_le _) (fun h9 r9 k9 => ⟨rfl, ?_⟩)
    have t9 := mf_mt r9 (by omega) t8
    have S9 : ax_same mr_F h h9 := sm_tr (sm_mono S8 (fun x hx => by unfold mr_F; omega)) (sm_mono r9.1 (fun x hx => by unfold mr_F; omega))
    have F88 : ∀ k, k < 164 → ax_i h9 88 k = if k = 0 then v else tini s k := fun k hk => by rw [(r9.1.2.2.2 88 (by omega)).1]; exact E88 k hk
    have tb9 : tb_at h9 s l_st0 := by
      refine ⟨fun _ => ⟨by rw [r9.2 22 (by omega)]; exact E22, by rw [r9.2 23 (by omega)]; exact E23, fun z => ?_, fun z => ⟨Nat.zero_le _, ?_, fun i j hi => absurd hi (Nat.not_lt_zero i)⟩⟩, fun z => absurd rfl z⟩
      · subst z
        refine ⟨by rw [F88 0 (by decide), if_pos rfl, hv]; rfl, by rw [F88 1 (by decide)]; rfl, fun p hp => absurd hp (Nat.not_lt_zero p), fun k hk => ?_, fun k hk => ?_, fun p q hp hq => ?_, fun p q hp hq => ?_⟩
        · rw [F88 (8 + k) (by omega), if_neg (by omega)]; unfold tini; rw [if_pos rfl, if_pos (by omega), if_pos (by omega)]; rfl
        · rw [F88 (14 + k) (by omega), if_neg (by omega)]; unfold tini; rw [if_pos rfl, if_pos (by omega), if_pos (by omega)]; rfl
        · rw [F88 (20 + 12 * p + q) (by omega), if_neg (by omega)]; unfold tini; rw [if_pos rfl, if_pos (by omega), if_neg (by omega)]; rfl
        · rw [F88 (92 + 12 * p + q) (by omega), if_neg (by omega)]; unfold tini; rw [if_pos rfl, if_neg (by omega)]; rfl
      · rw [F88 0 (by decide), if_pos rfl, hv, if_neg (by omega)]; rfl
    have o80 : ∀ i, ax_i h9 80 i = ax_i h 80 i ∧ ax_i h9 81 i = ax_i h 81 i := fun i => ⟨by rw [(r9.1.2.2.2 80 (by omega)).1, (S8.2.2.2 80 (by omega)).1], by rw [(r9.1.2.2.2 81 (by omega)).1, (S8.2.2.2 81 (by omega)).1]⟩
    refine ⟨t9.1.1, c_mlines t9 hT hn hs5 k9 tb9 ⟨by rw [r9.2 18 (by omega)]; exact E18, fun z => absurd rfl z⟩ (fun p ex h' M' e17 => ⟨_, rfl, fun _ => ?_, fun q => absurd rfl q⟩) (fun st ex ok hf h' M' tb' f' pl' e13 => ⟨_, rfl, fun q => absurd q (by decide), fun _ => ?_⟩)⟩
    · have er : rdT T n s = (1, nI p, D0, 0, fun _ _ => 0) := by unfold rdT; rw [ex]
      have S' : ax_same mr_F h h' := sm_tr S9 (sm_mono M'.1 (fun x hx => by unfold mr_F; omega))
      exact fin h' 0 1 (nI p) _ S' (fun i => ⟨by rw [(M'.1.2.2.2 80 (by omega)).1]; exact (o80 i).1, by rw [(M'.1.2.2.2 81 (by omega)).1]; exact (o80 i).2⟩) (fun _ => ⟨rfl, e17.symm⟩) (fun z => absurd rfl z) (by rw [er]; rfl) (by rw [er]; rfl) (fun z => absurd z (by decide))
    · have t' := mF_mt M' t9
      have S' : ax_same mr_F h h' := sm_tr S9 (sm_mono M'.1 (fun x hx => by unfold mr_F; omega))
      have o' : ∀ i, ax_i h' 80 i = ax_i h 80 i ∧ ax_i h' 81 i = ax_i h 81 i := fun i => ⟨by rw [(M'.1.2.2.2 80 (by omega)).1]; exact (o80 i).1, by rw [(M'.1.2.2.2 81 (by omega)).1]; exact (o80 i).2⟩
      obtain ⟨r20', s20'⟩ : ax_r h' 77 20 = some 88 ∧ ax_s h' 88 = (11, 164) := t'.1.2 10 _ rfl
      -- with a fault
      have flt : l_f st ≠ 0 → ∀ o1 : Option Value, A (146, [some (.ref 77), o1, some (.int 1)], [], h', 0, 0) := by
        intro z o1
        have er : rdT T n s = (nI (l_f st), nI (l_p st), D0, 0, fun _ _ => 0) := by unfold rdT; rw [ex]; dsimp only; rw [if_neg z]
        refine fin h' 1 (nI (l_f st)) (nI (l_p st)) o1 S' o' (fun w => absurd w (by decide)) (fun _ => ⟨f'.1.symm, fun w => ?_, fun _ => (f'.2 z).symm⟩) (by rw [er]; rfl) (by rw [er]; rfl) (fun w => absurd w (nI_ne0 (by omega) (by omega)))
        exact absurd w (nI_ge (a := 0) (b := l_f st) (by omega) (by omega))
      -- without
      have good : l_f st = 0 → ¬ (nI (dH (l_D st)) ≤ l_h st ∨ nI (dP (l_D st)) ≤ l_o st) → ∀ o1 : Option Value, A (146, [some (.ref 77), o1, some (.int 1)], [], h', 0, 0) := by
        intro z y o1
        have er : rdT T n s = (0, -1, l_D st, l_N st, l_C st) := by unfold rdT; rw [ex]; dsimp only; rw [if_pos z, if_neg y]
        have e18 : ax_i h' 77 18 = 0 := by rw [f'.1]; show nI (l_f st) = 0; rw [z]; rfl
        obtain ⟨y1, y2, y3, y4⟩ := tb'.1 z
        refine fin h' 1 0 (-1) o1 S' o' (fun w => absurd w (by decide)) (fun _ => ⟨e18.symm, fun _ => rfl, fun w => absurd (by decide) w⟩) (by rw [er]; rfl) (by rw [er]; rfl) (fun _ => ?_)
        rw [er]
        refine ⟨fun w => ?_, fun w => y4 w⟩
        obtain ⟨u1, u2, u3, u4, u5, u6, u7⟩ := y3 w
        have d := ok.1
        exact ⟨⟨d.1.2, d.2.1⟩, u1, u2, u3, u4, u5, fun p q hp hq => u6 p q (Nat.lt_of_lt_of_le hp d.2.1) (Nat.lt_of_lt_of_le hq d.1.2), fun p q hp hq => u7 p q (Nat.lt_of_lt_of_le hp d.2.1) (Nat.lt_of_lt_of_le hq d.1.2)⟩
      -- hours or people wanting
      have want : l_f st = 0 → (nI (dH (l_D st)) ≤ l_h st ∨ nI (dP (l_D st)) ≤ l_o st) → ∀ o1 : Option Value, A (137, [some (.ref 77), o1, some (.int 1)], [], h', 0, 0) := by
        intro z y o1
        have er : rdT T n s = (4, nI n, D0, 0, fun _ _ => 0) := by unfold rdT; rw [ex]; dsimp only; rw [if_pos z, if_pos y]
        refine vX10_readText_137 hA ⟨t'.1.1, t'.1.1, ?_⟩
        rw [e13]
        refine c_later (w := 4) (q := n) t'.1.1 f' hf (by decide) (by omega) (fun w => absurd z w) (fun h6 r6 f6 => ⟨rfl, ?_⟩)
        unfold nt at f6
        rw [if_pos ⟨z, rfl⟩] at f6
        refine fin h6 1 4 (nI n) o1 (sm_tr S' (sm_mono r6.1 (fun x hx => by unfold mr_F; omega))) (fun i => ⟨by rw [(r6.1.2.2.2 80 (by omega)).1]; exact (o' i).1, by rw [(r6.1.2.2.2 81 (by omega)).1]; exact (o' i).2⟩) (fun w => absurd w (by decide)) (fun _ => ⟨f6.1.symm, fun w => absurd w (by decide), fun _ => (f6.2 (show (4 : Nat) ≠ 0 by decide)).symm⟩) (by rw [er]; rfl) (by rw [er]; rfl) (fun w => absurd w (by decide))
      refine ⟨fun q => ?_, fun q => ⟨t'.1.1, fun q2 => flt (fun w => q2 (by rw [f'.1]; show nI (l_f st) = 0; rw [w]; rfl)) _, fun q2 => ?_⟩⟩
      · have hs1 : 1 ≤ s := Nat.one_le_iff_ne_zero.mpr (fun w => q (s0.mpr w))
        obtain ⟨-, o1, o2, o3, o4⟩ := ok.2 hs1
        by_cases z : l_f st = 0
        · refine good z ?_ _
          rw [o1, o2, o3, o4]; decide
        · exact flt z _
      · have z0 : s = 0 := s0.mp q
        have zf : l_f st = 0 := (nI_eq (b := 0) (by omega) (by decide)).mp (by rw [← f'.1]; exact q2)
        obtain ⟨y1, y2, y3, -⟩ := tb'.1 zf
        obtain ⟨u1, u2, -⟩ := y3 z0
        refine ⟨t'.1.1, t'.1.1, 88, r20', sh_k s20', by rw [s20']; exact i0, fun q3 => want zf (Or.inl ?_) _, fun q3 => ⟨t'.1.1, t'.1.1, 88, r20', sh_k s20', by rw [s20']; exact i1, fun q4 => good zf ?_ _, fun q4 => want zf (Or.inr ?_) _⟩⟩
        · rw [u1, y1] at q3; exact q3
        · rw [u1, y1] at q3
          rw [u2, y2] at q4
          exact fun w => w.elim q3 (fun x => absurd q4 (nt_lt.mpr x))
        · rw [u2, y2] at q4; exact nt_lt.mp q4
  have key : ∀ n' i : Nat, i + n' = 164 → ∀ hh : ax_H, ax_same (fun x => x = 88) h hh → (∀ k, k < i → ax_i hh 88 k = tini s k) → A (2, [some (.ref 77), some (.int (nI s)), some (.int (nI i))], [], hh, 0, 0) := by
    intro n'
    induction n' with
    | zero =>
      intro i hi hh hs row
      obtain rfl : i = 164 := by omega
      have m1 := mo_st_same hs m
      obtain ⟨r20, s20⟩ : ax_r hh 77 20 = some 88 ∧ ax_s hh 88 = (11, 164) := m1.2 10 _ rfl
      refine vX10_readText_2 hA ⟨fun _ => ⟨m1.1, 88, r20, fun q => B hh _ _ hs row ?_, fun q => B hh _ _ hs row ?_⟩, fun q => absurd (by decide) q⟩
      · rw [if_neg (fun z => q (s0.mpr z))]
      · rw [if_pos (s0.mp q)]
    | succ n' ih =>
      intro i hi hh hs row
      have m1 := mo_st_same hs m
      obtain ⟨r20, s20⟩ : ax_r hh 77 20 = some 88 ∧ ax_s hh 88 = (11, 164) := m1.2 10 _ rfl
      have put : ∀ v : Int32, v = tini s i → A (43, [some (.ref 77), some (.int (nI s)), some (.int (nI i))], [.int v, .int (nI i), .ref 88], hh, 0, 0) := by
        intro v hv
        refine vX10_readText_43 hA ⟨sh_k s20, by rw [s20]; exact vp_in_nI (by omega) (by decide), ?_⟩
        rw [nI_clamp (by omega), ← nI_succ]
        refine ih (i + 1) (by omega) _ (sm_tr hs (sm_pi rfl)) (fun k hk => ?_)
        by_cases e : k = i
        · rw [e, ai_eq]; exact hv
        · rw [ai_ne (by omega)]; exact row k (by omega)
      have l92 : nI i < 92 ↔ i < 92 := nI_ltI (a := i) (b := 92) (by omega) (by decide)
      have l20 : nI i < 20 ↔ i < 20 := nI_ltI (a := i) (b := 20) (by omega) (by decide)
      refine vX10_readText_2 hA ⟨fun q => absurd q (nI_ge (a := i) (b := 164) (by omega) (by decide)), fun _ => ⟨m1.1, 88, r20, fun q => ⟨fun q2 => ⟨fun q3 => put _ ?_, fun q3 => put _ ?_⟩, fun q2 => put _ ?_⟩, fun q => put _ ?_⟩⟩
      all_goals unfold tini
      · rw [if_pos (s0.mp q), if_pos (l92.mp q2), if_pos (l20.mp q3)]
      · rw [if_pos (s0.mp q), if_pos (l92.mp q2), if_neg (fun z => q3 (l20.mpr z))]
      · rw [if_pos (s0.mp q), if_neg (fun z => q2 (l92.mpr z))]
      · rw [if_neg (fun z => q (s0.mpr z))]
  exact key 164 0 (by omega) h sm_rf (fun k hk => absurd hk (Nat.not_lt_zero k))
end
end

