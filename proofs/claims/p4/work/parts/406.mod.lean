section
/-! the reference: its rows by place (field, kind, length), behind its object at m -/
def mo_tab : List (Nat × Nat × Nat) := [(1, 12, 2400), (2, 11, 4), (3, 11, 4), (4, 11, 4), (5, 11, 20), (6, 11, 1312), (7, 11, 120), (8, 11, 152), (9, 11, 136), (10, 11, 152), (20, 11, 164), (21, 11, 3), (28, 11, 6), (29, 11, 72), (30, 11, 72), (31, 11, 12), (40, 11, 12), (43, 14, 28672), (44, 11, 6), (48, 11, 8), (52, 11, 3), (53, 11, 3), (54, 11, 60), (55, 11, 6), (58, 13, 3)]
def mo_st (h : ax_H) (m : Nat) : Prop := (ax_s h m).1 = 10 ∧ ∀ j q, mo_tab[j]? = some q → ax_r h m q.1 = some (m + 1 + j) ∧ ax_s h (m + 1 + j) = q.2
theorem mo_st_same {F : Nat → Prop} {h h' : ax_H} {m : Nat} (hs : ax_same F h h') (a : mo_st h m) : mo_st h' m := ⟨by rw [hs.2.1]; exact a.1, fun j q hj => ⟨by rw [hs.2.2.1]; exact (a.2 j q hj).1, by rw [hs.2.1]; exact (a.2 j q hj).2⟩⟩
theorem mo_pu {h : ax_H} {m : Nat} (a : mo_st h m) : ax_r h m 28 = some (m + 13) ∧ ax_s h (m + 13) = (11, 6) := a.2 12 _ rfl
theorem mo_de {h : ax_H} {m : Nat} (a : mo_st h m) : ax_r h m 29 = some (m + 14) ∧ ax_s h (m + 14) = (11, 72) := a.2 13 _ rfl
theorem mo_va {h : ax_H} {m : Nat} (a : mo_st h m) : ax_r h m 30 = some (m + 15) ∧ ax_s h (m + 15) = (11, 72) := a.2 14 _ rfl
theorem mo_we {h : ax_H} {m : Nat} (a : mo_st h m) : ax_r h m 31 = some (m + 16) ∧ ax_s h (m + 16) = (11, 12) := a.2 15 _ rfl
theorem mo_re {h : ax_H} {m : Nat} (a : mo_st h m) : ax_r h m 6 = some (m + 6) ∧ ax_s h (m + 6) = (11, 1312) := a.2 5 _ rfl
theorem mo_ma {h : ax_H} {m : Nat} (a : mo_st h m) : ax_r h m 5 = some (m + 5) ∧ ax_s h (m + 5) = (11, 20) := a.2 4 _ rfl
/-- fields of m but those of J, and cells but those of F, are as they were -/
def mr (J F : Nat → Prop) (m : Nat) (h h' : ax_H) : Prop := ax_same (fun a => a = m ∨ F a) h h' ∧ ∀ j, ¬ J j → ax_i h' m j = ax_i h m j ∧ ax_l h' m j = ax_l h m j
theorem mr_rf {J F : Nat → Prop} {m : Nat} {h : ax_H} : mr J F m h h := ⟨sm_rf, fun _ _ => ⟨rfl, rfl⟩⟩
theorem mr_tr {J F : Nat → Prop} {m : Nat} {h h1 h2 : ax_H} (a : mr J F m h h1) (b : mr J F m h1 h2) : mr J F m h h2 := ⟨sm_tr a.1 b.1, fun j hj => ⟨((b.2 j hj).1).trans (a.2 j hj).1, ((b.2 j hj).2).trans (a.2 j hj).2⟩⟩
theorem mr_mono {J F J' F' : Nat → Prop} {m : Nat} {h h1 : ax_H} (a : mr J F m h h1) (i : ∀ x, J x → J' x) (k : ∀ x, F x → F' x) : mr J' F' m h h1 := ⟨sm_mono a.1 (fun x q => q.imp_right (k x)), fun j hj => a.2 j (fun q => hj (i j q))⟩
theorem mr_f {J F : Nat → Prop} {m : Nat} {h : ax_H} {k : Nat} {v : Int32} (hJ : J k) : mr J F m h (ax_pi h m k v) := ⟨sm_pi (Or.inl rfl), fun j hj => ⟨by rw [ai_pi, if_neg (fun (q : m = m ∧ j = k) => hj (q.2.symm ▸ hJ))], rfl⟩⟩
theorem mr_l {J F : Nat → Prop} {m : Nat} {h : ax_H} {k : Nat} {v : Int64} (hJ : J k) : mr J F m h (ax_pl h m k v) := ⟨sm_pl (Or.inl rfl), fun j hj => ⟨rfl, by rw [al_pl, if_neg (fun (q : m = m ∧ j = k) => hj (q.2.symm ▸ hJ))]⟩⟩
theorem mr_c {J F : Nat → Prop} {m a : Nat} {h : ax_H} {k : Nat} {v : Int32} (hF : F a) (hne : a ≠ m) : mr J F m h (ax_pi h a k v) := ⟨sm_pi (Or.inr hF), fun j _ => ⟨by rw [ai_pi, if_neg (fun (q : m = a ∧ j = k) => hne q.1.symm)], rfl⟩⟩
theorem mr_st {J F : Nat → Prop} {m : Nat} {h h' : ax_H} (a : mr J F m h h') (b : mo_st h m) : mo_st h' m := mo_st_same a.1 b
/-- a republic in the reference's row, from place B on -/
def rm_at (h : ax_H) (m B : Nat) (D : rD) : Prop := (dH D ≤ 12 ∧ dP D ≤ 6) ∧ ax_i h (m + 6) B = nI (dH D) ∧ ax_i h (m + 6) (B + 1) = nI (dP D) ∧ (∀ p, p < dP D → ax_i h (m + 6) (B + 2 + p) = dpu D p) ∧ (∀ k, k < 6 → ax_i h (m + 6) (B + 8 + k) = dwo D k) ∧ (∀ k, k < 6 → ax_i h (m + 6) (B + 14 + k) = dmo D k) ∧ (∀ p q, p < dP D → q < dH D → ax_i h (m + 6) (B + 20 + 12 * p + q) = dde D p q) ∧ ∀ p q, p < dP D → q < dH D → ax_i h (m + 6) (B + 92 + 12 * p + q) = dlo D p q
theorem rm_at_same {F : Nat → Prop} {h h' : ax_H} {m B : Nat} {D : rD} (hs : ax_same F h h') (hF : ¬ F (m + 6)) (a : rm_at h m B D) : rm_at h' m B D := by
  have e := (hs.2.2.2 _ hF).1
  unfold rm_at
  simp only [e]
  exact a
theorem ni_21 {p q : Nat} : (12 : Int32) * nI p + nI q = nI (12 * p + q) := by
  rw [show (12 : Int32) = nI 12 from rfl, pk_mul, nI_add]
theorem ni_c (k q : Nat) : (OfNat.ofNat k : Int32) + nI q = nI (k + q) := by
  rw [show (OfNat.ofNat k : Int32) = nI k from rfl, nI_add]
/-- the republic in hand: its number, its data, the modes that hold -/
def mb_at (h : ax_H) (m ρ : Nat) (D : rD) (mo : Nat → Int32) : Prop := mo_st h m ∧ ρ < 2 ∧ rm_at h m (164 * ρ) D ∧ ax_i h m 25 = nI ρ ∧ ax_i h m 26 = nI (dH D) ∧ ax_i h m 27 = nI (dP D) ∧ ∀ k, k < 6 → (if nI k = ax_i h m 34 then ax_i h m 35 else dmo D k) = mo k
theorem mb_at_mr {J F : Nat → Prop} {h h' : ax_H} {m ρ : Nat} {D : rD} {mo : Nat → Int32} (hs : mr J F m h h') (hJ : ¬ J 25 ∧ ¬ J 26 ∧ ¬ J 27 ∧ ¬ J 34 ∧ ¬ J 35) (hF : ¬ F (m + 6)) (a : mb_at h m ρ D mo) : mb_at h' m ρ D mo := by
  obtain ⟨a1, a2, a3, a4, a5, a6, a7⟩ := a
  exact ⟨mr_st hs a1, a2, rm_at_same hs.1 (fun q => q.elim (by omega) hF) a3, by rw [(hs.2 _ hJ.1).1]; exact a4, by rw [(hs.2 _ hJ.2.1).1]; exact a5, by rw [(hs.2 _ hJ.2.2.1).1]; exact a6, fun k hk => by rw [(hs.2 _ hJ.2.2.2.1).1, (hs.2 _ hJ.2.2.2.2).1]; exact a7 k hk⟩
theorem mr_e {J F : Nat → Prop} {m x : Nat} {h h' : ax_H} (hs : mr J F m h h') (h1 : x ≠ m) (h2 : ¬ F x) (k : Nat) : ax_i h' x k = ax_i h x k := (hs.1.2.2.2 x (fun q => q.elim h1 h2)).1 k
/-- and purses, deeds and values as they stand -/
def mc_at (h : ax_H) (m ρ : Nat) (D : rD) (mo pu : Nat → Int32) (vl : Nat → Nat → Int32) : Prop := mb_at h m ρ D mo ∧ (∀ p, p < dP D → ax_i h (m + 13) p = pu p) ∧ (∀ p q, p < dP D → q < dH D → ax_i h (m + 14) (12 * p + q) = dde D p q) ∧ ∀ p q, p < dP D → q < dH D → ax_i h (m + 15) (12 * p + q) = vl p q
theorem mc_at_mr {J F : Nat → Prop} {h h' : ax_H} {m ρ : Nat} {D : rD} {mo pu : Nat → Int32} {vl : Nat → Nat → Int32} (hs : mr J F m h h') (hJ : ¬ J 25 ∧ ¬ J 26 ∧ ¬ J 27 ∧ ¬ J 34 ∧ ¬ J 35) (hF : ¬ F (m + 6) ∧ ¬ F (m + 13) ∧ ¬ F (m + 14) ∧ ¬ F (m + 15)) (a : mc_at h m ρ D mo pu vl) : mc_at h' m ρ D mo pu vl :=
  ⟨mb_at_mr hs hJ hF.1 a.1, fun p hp => by rw [mr_e hs (by omega) hF.2.1]; exact a.2.1 p hp, fun p q hp hq => by rw [mr_e hs (by omega) hF.2.2.1]; exact a.2.2.1 p q hp hq, fun p q hp hq => by rw [mr_e hs (by omega) hF.2.2.2]; exact a.2.2.2 p q hp hq⟩
variable {g : ax_G} {Ret : Option Value → ax_H → Prop} {h : ax_H} {m ρ : Nat} {D : rD} {mo pu : Nat → Int32} {vl : Nat → Nat → Int32}
theorem c_min {x y z : Int32} (hq : Ret (some (.int (b2i (decide (y ≤ x ∧ x ≤ z))))) h) : mX10_in g [.int x, .int y, .int z] h Ret := by
  unfold b2i at hq
  refine eX10_in ⟨fun h1 => ⟨Or.inl rfl, ?_⟩, fun h1 => ⟨fun h2 => ⟨Or.inl rfl, ?_⟩, fun h2 => ⟨Or.inr rfl, ?_⟩⟩⟩
  · rw [decide_eq_false (fun q => absurd h1 (nt_lt.mpr q.1))] at hq; exact hq
  · rw [decide_eq_false (fun q => absurd h2 (nt_lt.mpr q.2))] at hq; exact hq
  · rw [decide_eq_true ⟨nt_lt.mp h1, nt_lt.mp h2⟩] at hq; exact hq
theorem b01 {b : Bool} : b2i b = 0 ∨ b2i b = 1 := by cases b <;> decide
theorem i_inN {x : Int32} {n : Nat} (hn : n < 2 ^ 31) : (0 ≤ x ∧ x ≤ nI n - 1) ↔ (0 ≤ x ∧ x < nI n) := by
  constructor
  · rintro ⟨h1, h2⟩
    refine ⟨h1, ?_⟩
    cases n with
    | zero => exact absurd (Int32.le_trans h1 h2) (by decide)
    | succ n =>
      rw [nI_pred] at h2
      exact Int32.lt_of_le_of_lt h2 (nI_lt (Nat.lt_succ_self n) hn)
  · rintro ⟨h1, h2⟩
    refine ⟨h1, ?_⟩
    obtain ⟨j, hj, rfl⟩ := (ni_ix hn).mp ⟨nt_lt.mpr h1, nt_le.mpr h2⟩
    cases n with
    | zero => exact absurd hj (Nat.not_lt_zero j)
    | succ n => rw [nI_pred]; exact nI_le (by omega) (by omega)
theorem c_minN {x : Int32} {n : Nat} (hn : n < 2 ^ 31) (hq : Ret (some (.int (b2i (sp_in x n)))) h) : mX10_in g [.int x, .int 0, .int (nI n - 1)] h Ret := by
  refine c_min ?_
  unfold sp_in at hq
  rw [show decide (0 ≤ x ∧ x ≤ nI n - 1) = decide (0 ≤ x ∧ x < nI n) from decide_eq_decide.mpr (i_inN hn)]
  exact hq
theorem c_mis {s n : Nat} {x : Int32} (a : mo_st h m) (hs : s < 5) (hn : n ≤ 2) (hm : ax_i h (m + 5) s = nI n) (hq : Ret (some (.int (b2i (sp_in x n)))) h) : mX10_is g [.ref m, .int (nI s), .int x] h Ret := by
  obtain ⟨e1, e2⟩ := mo_ma a
  refine eX10_is ⟨a.1, _, e1, by rw [e2], by rw [e2]; exact vp_in_nI (by omega) (by decide), ?_⟩
  rw [nI_clamp (by omega), hm]
  exact c_minN (by omega) ⟨_, rfl, b01, hq⟩
theorem c_mof {i : Nat} {x : Int32} (a : mo_st h m) (hρ : ρ < 2) (he : ax_i h m 25 = nI ρ) (hi : i < 164) (hx : x = nI i) (hq : Ret (some (.int (ax_i h (m + 6) (164 * ρ + i)))) h) : mX10_of g [.ref m, .int x] h Ret := by
  obtain ⟨e1, e2⟩ := mo_re a
  subst hx
  have ei : (164 : Int32) * nI ρ + nI i = nI (164 * ρ + i) := by rw [show (164 : Int32) = nI 164 from rfl, pk_mul, nI_add]
  refine eX10_of ⟨a.1, _, e1, a.1, by rw [e2], ?_, ?_⟩
  · rw [he, ei, e2]; exact vp_in_nI (by omega) (by decide)
  · rw [he, ei, nI_clamp (by omega)]; exact hq
theorem c_mmode {k : Nat} (a : mb_at h m ρ D mo) (hk : k < 6) (hq : Ret (some (.int (mo k))) h) : mX10_modeOf g [.ref m, .int (nI k)] h Ret := by
  obtain ⟨a1, a2, a3, a4, -, -, a7⟩ := a
  have e := a7 k hk
  refine eX10_modeOf ⟨a1.1, fun h1 => ⟨a1.1, c_mof (i := 14 + k) a1 a2 a4 (by omega) (ni_c 14 k) ⟨_, rfl, ?_⟩⟩, fun h1 => ⟨a1.1, ?_⟩⟩
  · rw [if_neg h1] at e
    rw [← Nat.add_assoc, a3.2.2.2.2.2.1 k hk, e]; exact hq
  · rw [if_pos h1] at e
    rw [e]; exact hq
def sp_ti (m l : Int32) : Int32 := if m = 0 then l else if m = 1 then 1 else 0
theorem c_mtimes {x y : Int32} (hq : Ret (some (.int (sp_ti x y))) h) : mX10_times g [.int x, .int y] h Ret := by
  unfold sp_ti at hq
  refine eX10_times ⟨fun h1 => ⟨fun h2 => ?_, fun h2 => ?_⟩, fun h1 => ?_⟩
  · rw [if_neg h1, if_neg h2] at hq; exact hq
  · rw [if_neg h1, if_pos h2] at hq; exact hq
  · rw [if_pos h1] at hq; exact hq
/-- what a deed brings in an hour lived so often -/
def sp_mw (D : rD) (mo : Nat → Int32) (p q : Nat) (l : Int32) : Int32 := if dde D p q = -1 then 0 else dwo D (dde D p q).toNatClampNeg * (if l = 1 then 1 else sp_ti (mo (dde D p q).toNatClampNeg) l)
theorem c_mworth {p q : Nat} {l : Int32} (a : mb_at h m ρ D mo) (a9 : ax_i h (m + 14) (12 * p + q) = dde D p q) (hd : dde D p q = -1 ∨ ∃ k : Nat, k < 6 ∧ dde D p q = nI k) (hp : p < dP D) (hq0 : q < dH D) (hq : Ret (some (.int (sp_mw D mo p q l))) h) : mX10_worthOf g [.ref m, .int (nI p), .int (nI q), .int l] h Ret := by
  obtain ⟨a1, a2, a3, a4, -, -, -⟩ := id a
  obtain ⟨e1, e2⟩ := mo_de a1
  have hb := a3.1
  unfold sp_mw at hq
  have ei : (12 : Int32) * nI p + nI q = nI (12 * p + q) := ni_21
  refine eX10_worthOf ⟨a1.1, _, e1, by rw [e2], ?_, fun h1 => ?_, fun h1 => ?_⟩
  · rw [ei, e2]; exact vp_in_nI (by omega) (by decide)
  · rw [ei, nI_clamp (by omega), a9] at h1 ⊢
    obtain ⟨k, hk, hd⟩ := hd.resolve_left h1
    rw [if_neg h1, hd, nI_clamp (by omega)] at hq
    rw [hd]
    refine ⟨a1.1, c_mof (i := 8 + k) a1 a2 a4 (by omega) (ni_c 8 k) ⟨_, rfl, ?_⟩⟩
    rw [← Nat.add_assoc, a3.2.2.2.2.1 k hk]
    refine ⟨fun h2 => ⟨a1.1, c_mmode a hk ⟨_, rfl, c_mtimes ⟨_, rfl, ?_⟩⟩⟩, fun h2 => ?_⟩
    · rw [if_neg h2] at hq; exact hq
    · rw [if_pos h2] at hq; exact hq
  · rw [ei, nI_clamp (by omega), a9] at h1
    rw [if_pos h1] at hq; exact hq
end
