section
variable {g : ax_G} {Ret : Option Value → ax_H → Prop} {h : ax_H} {S : sT} {Im : Nat → Option sT}
theorem byte_self {x : Int32} (e : fits .byte (.int x) = true) : x.toInt8.toInt32 = x := by
  have e : (-128 ≤ x ∧ x ≤ 127) := by simpa [fits] using e
  have h1 := i_le.mp e.1
  have h2 := i_le.mp e.2
  apply i_inj
  rw [Int8.toInt_toInt32, Int32.toInt_toInt8]
  exact Int.bmod_eq_of_le (by simpa using h1) (by have : x.toInt ≤ 127 := h2; simp; omega)
theorem c_mcopyRow {b n σ τ L : Nat} (s : ax_s h b = (11, L)) (h1 : n * σ + n ≤ L) (h2 : n * τ + n ≤ L) (hL : L < 100000) (hne : σ ≠ τ) (hq : ∀ h', ax_same (fun x => x = b) h h' → (∀ k, k < n → ax_i h' b (n * τ + k) = ax_i h b (n * σ + k)) → (∀ j, ¬ (n * τ ≤ j ∧ j < n * τ + n) → ax_i h' b j = ax_i h b j) → Ret none h') : mX10_copyRow g [.ref b, .int (nI n), .int (nI σ), .int (nI τ)] h Ret := by
  have dis : ∀ i k, i < n → k < n → n * σ + i ≠ n * τ + k := by
    intro i k hi hk e
    rcases Nat.lt_or_ge σ τ with q | q
    · have : n * (σ + 1) ≤ n * τ := Nat.mul_le_mul_left n q
      rw [Nat.mul_succ] at this
      omega
    · have : n * (τ + 1) ≤ n * σ := Nat.mul_le_mul_left n (by omega)
      rw [Nat.mul_succ] at this
      omega
  refine uX10_copyRow (fun A hA => vX10_copyRow_0 hA ?_)
  have key : ∀ m i : Nat, i + m = n → ∀ hh : ax_H, ax_same (fun x => x = b) h hh → (∀ k, k < i → ax_i hh b (n * τ + k) = ax_i h b (n * σ + k)) → (∀ j, ¬ (n * τ ≤ j ∧ j < n * τ + i) → ax_i hh b j = ax_i h b j) → A (3, [some (.ref b), some (.int (nI n)), some (.int (nI σ)), some (.int (nI τ)), some (.int (nI i))], [], hh, 0, 0) := by
    intro m
    induction m with
    | zero =>
      intro i hi hh hs e1 e2
      obtain rfl : i = n := by omega
      exact vX10_copyRow_3 hA ⟨fun _ => hq hh hs e1 e2, fun q => absurd (nI_le (Nat.le_refl i) (by omega)) q⟩
    | succ m ih =>
      intro i hi hh hs e1 e2
      have s' : ax_s hh b = (11, L) := by rw [hs.2.1]; exact s
      have ea : nI n * nI σ + nI i = nI (n * σ + i) := by rw [pk_mul, nI_add]
      have eb : nI n * nI τ + nI i = nI (n * τ + i) := by rw [pk_mul, nI_add]
      refine vX10_copyRow_3 hA ⟨fun q => absurd q (nI_ge (a := i) (b := n) (by omega) (by omega)), fun _ => ⟨sh_k s', by rw [ea, s']; exact vp_in_nI (by omega) (by omega), sh_k s', by rw [eb, s']; exact vp_in_nI (by omega) (by omega), ?_⟩⟩
      rw [ea, eb, nI_clamp (by omega), nI_clamp (by omega), ← nI_succ]
      refine ih (i + 1) (by omega) _ (sm_tr hs (sm_pi rfl)) (fun k hk => ?_) (fun j hj => ?_)
      · by_cases e : k = i
        · subst e
          have hne' : ¬ (n * τ ≤ n * σ + k ∧ n * σ + k < n * τ + k) := fun q => dis k (n * σ + k - n * τ) (by omega) (by omega) (by omega)
          rw [ai_eq, e2 (n * σ + k) hne']
        · rw [ai_ne (by omega)]; exact e1 k (by omega)
      · rw [ai_ne (by omega)]; exact e2 j (by omega)
  exact key n 0 (by omega) h sm_rf (fun k hk => absurd hk (Nat.not_lt_zero k)) (fun j _ => rfl)
/-- how long a part of the reference's j-th row is -/
def rwl (j : Nat) : Nat := [0, 600, 1, 1, 1, 5, 328, 30, 38, 34, 38].getD j 0
/-- its j-th row, part σ copied to part τ -/
def cpj (σ τ : Nat) (h h' : ax_H) (j : Nat) : Prop := (∀ k, k < rwl j → ax_i h' (77 + j) (rwl j * τ + k) = ax_i h (77 + j) (rwl j * σ + k)) ∧ ∀ i, ¬ (rwl j * τ ≤ i ∧ i < rwl j * τ + rwl j) → ax_i h' (77 + j) i = ax_i h (77 + j) i
theorem cpj_ag {P : Nat → Prop} {σ τ j : Nat} {h1 h2 : ax_H} (s : ag P h1 h2) (i : P (77 + j)) (a : cpj σ τ h h1 j) : cpj σ τ h h2 j := ⟨fun k hk => by rw [(s _ i).2.1]; exact a.1 k hk, fun q hq => by rw [(s _ i).2.1]; exact a.2 q hq⟩
theorem c_mcopyJ {j σ τ : Nat} (a : mo_st h 77) (hj : 2 ≤ j) (hj2 : j ≤ 10) (hσ : σ < 4) (hτ : τ < 4) (hne : σ ≠ τ) (hq : ∀ h', ax_same (fun x => x = 77 + j) h h' → cpj σ τ h h' j → Ret none h') : mX10_copyRow g [.ref (77 + j), .int (nI (rwl j)), .int (nI σ), .int (nI τ)] h Ret := by
  have key : ∀ L, ax_s h (77 + j) = (11, L) → rwl j * σ + rwl j ≤ L → rwl j * τ + rwl j ≤ L → L < 100000 → mX10_copyRow g [.ref (77 + j), .int (nI (rwl j)), .int (nI σ), .int (nI τ)] h Ret := fun L s h1 h2 hL => c_mcopyRow s h1 h2 hL hne (fun h' hs e1 e2 => hq h' hs ⟨e1, e2⟩)
  match j, hj, hj2 with
  | 2, _, _ => exact key 4 (a.2 1 _ rfl).2 (by show 1 * σ + 1 ≤ 4; omega) (by show 1 * τ + 1 ≤ 4; omega) (by decide)
  | 3, _, _ => exact key 4 (a.2 2 _ rfl).2 (by show 1 * σ + 1 ≤ 4; omega) (by show 1 * τ + 1 ≤ 4; omega) (by decide)
  | 4, _, _ => exact key 4 (a.2 3 _ rfl).2 (by show 1 * σ + 1 ≤ 4; omega) (by show 1 * τ + 1 ≤ 4; omega) (by decide)
  | 5, _, _ => exact key 20 (a.2 4 _ rfl).2 (by show 5 * σ + 5 ≤ 20; omega) (by show 5 * τ + 5 ≤ 20; omega) (by decide)
  | 6, _, _ => exact key 1312 (a.2 5 _ rfl).2 (by show 328 * σ + 328 ≤ 1312; omega) (by show 328 * τ + 328 ≤ 1312; omega) (by decide)
  | 7, _, _ => exact key 120 (a.2 6 _ rfl).2 (by show 30 * σ + 30 ≤ 120; omega) (by show 30 * τ + 30 ≤ 120; omega) (by decide)
  | 8, _, _ => exact key 152 (a.2 7 _ rfl).2 (by show 38 * σ + 38 ≤ 152; omega) (by show 38 * τ + 38 ≤ 152; omega) (by decide)
  | 9, _, _ => exact key 136 (a.2 8 _ rfl).2 (by show 34 * σ + 34 ≤ 136; omega) (by show 34 * τ + 34 ≤ 136; omega) (by decide)
  | 10, _, _ => exact key 152 (a.2 9 _ rfl).2 (by show 38 * σ + 38 ≤ 152; omega) (by show 38 * τ + 38 ≤ 152; omega) (by decide)
theorem mo_row {j : Nat} (a : mo_st h 77) (hj : 2 ≤ j) (hj2 : j ≤ 10) : ax_r h 77 j = some (77 + j) := by
  match j, hj, hj2 with
  | 2, _, _ => exact (a.2 1 _ rfl).1
  | 3, _, _ => exact (a.2 2 _ rfl).1
  | 4, _, _ => exact (a.2 3 _ rfl).1
  | 5, _, _ => exact (a.2 4 _ rfl).1
  | 6, _, _ => exact (a.2 5 _ rfl).1
  | 7, _, _ => exact (a.2 6 _ rfl).1
  | 8, _, _ => exact (a.2 7 _ rfl).1
  | 9, _, _ => exact (a.2 8 _ rfl).1
  | 10, _, _ => exact (a.2 9 _ rfl).1
theorem c_mcopyAll {σ τ : Nat} (a : mo_st h 77) (hσ : σ < 4) (hτ : τ < 4) (hne : σ ≠ τ) (hb : ∀ i, i < 600 → fits .byte (.int (ax_i h 78 (600 * σ + i))) = true) (hq : ∀ h', ax_same (fun x => 78 ≤ x ∧ x ≤ 87) h h' → (∀ j, 1 ≤ j → j ≤ 10 → cpj σ τ h h' j) → Ret none h') : mX10_copyAll g [.ref 77, .int (nI σ), .int (nI τ)] h Ret := by
  refine uX10_copyAll (fun A hA => vX10_copyAll_0 hA ?_)
  -- the rows of ints
  have rows : ∀ hh : ax_H, ax_same (fun x => x = 78) h hh → cpj σ τ h hh 1 → ∀ x3 : Int32, 600 ≤ x3 → A (2, [some (.ref 77), some (.int (nI σ)), some (.int (nI τ)), some (.int x3)], [], hh, 0, 0) := by
    intro hh hs c1 x3 hx
    have step : ∀ (j : Nat) (h1 : ax_H) (K : ax_H → Prop), 2 ≤ j → j ≤ 10 → ax_same (fun x => 78 ≤ x ∧ x < 77 + j) h h1 → (∀ i, 1 ≤ i → i < j → cpj σ τ h h1 i) → (∀ h2, ax_same (fun x => 78 ≤ x ∧ x < 77 + (j + 1)) h h2 → (∀ i, 1 ≤ i → i < j + 1 → cpj σ τ h h2 i) → K h2) → mX10_copyRow g [.ref (77 + j), .int (nI (rwl j)), .int (nI σ), .int (nI τ)] h1 (fun v h2 => v = none ∧ K h2) := by
      intro j h1 K hj hj2 s1 cc go
      refine c_mcopyJ (mo_st_same s1 a) hj hj2 hσ hτ hne (fun h2 s2 c2 => ⟨rfl, go h2 (sm_tr (sm_mono s1 (fun x hx => by omega)) (sm_mono s2 (fun x hx => by omega))) (fun i i1 i2 => ?_)⟩)
      by_cases e : i = j
      · subst e
        have e1 : ∀ k, ax_i h1 (77 + i) k = ax_i h (77 + i) k := (s1.2.2.2 _ (by omega)).1
        exact ⟨fun k hk => by rw [c2.1 k hk, e1], fun k hk => by rw [c2.2 k hk, e1]⟩
      · exact cpj_ag (P := fun x => x ≠ 77 + j) (ag_same s2 (fun x hx => hx)) (by omega) (cc i i1 (by omega))
    have S : ∀ {n : Nat} {h1 : ax_H}, ax_same (fun x => 78 ≤ x ∧ x < n) h h1 → mo_st h1 77 := fun s => mo_st_same s a
    have s2 : ax_same (fun x => 78 ≤ x ∧ x < 77 + 2) h hh := sm_mono hs (fun x hx => by omega)
    have c1' : ∀ i, 1 ≤ i → i < 2 → cpj σ τ h hh i := by
      intro i i1 i2
      have e : i = 1 := by omega
      rw [e]; exact c1
    refine vX10_copyAll_2 hA ⟨fun _ => ⟨(S s2).1, _, mo_row (S s2) (by decide) (by decide), step 2 hh _ (by decide) (by decide) s2 c1' (fun h3 s3 c3 => ⟨(S s3).1, _, mo_row (S s3) (by decide) (by decide), step 3 h3 _ (by decide) (by decide) s3 c3 (fun h4 s4 c4 => ⟨(S s4).1, _, mo_row (S s4) (by decide) (by decide), step 4 h4 _ (by decide) (by decide) s4 c4 (fun h5 s5 c5 => ⟨(S s5).1, _, mo_row (S s5) (by decide) (by decide), step 5 h5 _ (by decide) (by decide) s5 c5 (fun h6 s6 c6 => ⟨(S s6).1, _, mo_row (S s6) (by decide) (by decide), step 6 h6 _ (by decide) (by decide) s6 c6 (fun h7 s7 c7 => ⟨(S s7).1, _, mo_row (S s7) (by decide) (by decide), step 7 h7 _ (by decide) (by decide) s7 c7 (fun h8 s8 c8 => ⟨(S s8).1, _, mo_row (S s8) (by decide) (by decide), step 8 h8 _ (by decide) (by decide) s8 c8 (fun h9 s9 c9 => ⟨(S s9).1, _, mo_row (S s9) (by decide) (by decide), step 9 h9 _ (by decide) (by decide) s9 c9 (fun h10 s10 c10 => ⟨(S s10).1, _, mo_row (S s10) (by decide) (by decide), step 10 h10 _ (by decide) (by decide) s10 c10 (fun h11 s11 c11 => ?_)⟩)⟩)⟩)⟩)⟩)⟩)⟩)⟩)⟩, fun q => absurd hx q⟩
    exact hq h11 (sm_mono s11 (fun x hx => by omega)) (fun j j1 j2 => c11 j j1 (by omega))
  -- the tape
  have key : ∀ m i : Nat, i + m = 600 → ∀ hh : ax_H, ax_same (fun x => x = 78) h hh → (∀ k, k < i → ax_i hh 78 (600 * τ + k) = ax_i h 78 (600 * σ + k)) → (∀ j, ¬ (600 * τ ≤ j ∧ j < 600 * τ + i) → ax_i hh 78 j = ax_i h 78 j) → A (2, [some (.ref 77), some (.int (nI σ)), some (.int (nI τ)), some (.int (nI i))], [], hh, 0, 0) := by
    intro m
    induction m with
    | zero =>
      intro i hi hh hs e1 e2
      obtain rfl : i = 600 := by omega
      exact rows hh hs ⟨e1, e2⟩ (nI 600) (by decide)
    | succ m ih =>
      intro i hi hh hs e1 e2
      have a' := mo_st_same hs a
      obtain ⟨r1, s1⟩ : ax_r hh 77 1 = some 78 ∧ ax_s hh 78 = (12, 2400) := a'.2 0 _ rfl
      have ea : (600 : Int32) * nI σ + nI i = nI (600 * σ + i) := by rw [show (600 : Int32) = nI 600 from rfl, pk_mul, nI_add]
      have eb : (600 : Int32) * nI τ + nI i = nI (600 * τ + i) := by rw [show (600 : Int32) = nI 600 from rfl, pk_mul, nI_add]
      refine vX10_copyAll_2 hA ⟨fun q => absurd q (nI_ge (a := i) (b := 600) (by omega) (by omega)), fun _ => ⟨a'.1, _, r1, a'.1, _, r1, sh_k s1, by rw [ea, s1]; exact vp_in_nI (by omega) (by omega), sh_k s1, by rw [eb, s1]; exact vp_in_nI (by omega) (by omega), ?_⟩⟩
      rw [ea, eb, nI_clamp (by omega), nI_clamp (by omega), ← nI_succ]
      have ev : ax_i hh 78 (600 * σ + i) = ax_i h 78 (600 * σ + i) := e2 _ (by omega)
      rw [ev, byte_self (hb i (by omega))]
      refine ih (i + 1) (by omega) _ (sm_tr hs (sm_pi rfl)) (fun k hk => ?_) (fun j hj => ?_)
      · by_cases e : k = i
        · subst e; rw [ai_eq]
        · rw [ai_ne (by omega)]; exact e1 k (by omega)
      · rw [ai_ne (by omega)]; exact e2 j (by omega)
  exact key 600 0 (by omega) h sm_rf (fun k hk => absurd hk (Nat.not_lt_zero k)) (fun j _ => rfl)
end
