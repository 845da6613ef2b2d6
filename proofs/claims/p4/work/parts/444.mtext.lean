section
variable {g : ax_G} {Ret : Option Value → ax_H → Prop} {h : ax_H} {S : sT} {Im : Nat → Option sT}
/-! TEXT, the reference -/
def lX (s : Nat) : Nat := [164, 15, 19, 17, 19].getD s 0
theorem lX_W {s : Nat} (h1 : 1 ≤ s) (h5 : s < 5) : lX s = lW s := by
  match s, h1, h5 with
  | 1, _, _ => rfl
  | 2, _, _ => rfl
  | 3, _, _ => rfl
  | 4, _, _ => rfl
theorem lX_rwl {s : Nat} (h5 : s < 5) : rwl (6 + s) = 2 * lX s ∧ 15 ≤ lX s ∧ lX s ≤ 164 := by
  match s, h5 with
  | 0, _ => decide
  | 1, _ => decide
  | 2, _ => decide
  | 3, _ => decide
  | 4, _ => decide
theorem rwl_pos {j : Nat} (h1 : 1 ≤ j) (h2 : j ≤ 10) : 1 ≤ rwl j := by
  match j, h1, h2 with
  | 1, _, _ => decide
  | 2, _, _ => decide
  | 3, _, _ => decide
  | 4, _, _ => decide
  | 5, _, _ => decide
  | 6, _, _ => decide
  | 7, _, _ => decide
  | 8, _, _ => decide
  | 9, _, _ => decide
  | 10, _, _ => decide
theorem c_mstore {b n k L : Nat} (a : mo_st h 77) (s : ax_s h b = (11, L)) (hb : b ≠ 88) (hn : n ≤ 164) (hk : n * k + n ≤ L) (hL : L < 100000) (hq : ∀ h', ax_same (fun x => x = b) h h' → (∀ i, i < n → ax_i h' b (n * k + i) = ax_i h 88 i) → (∀ j, ¬ (n * k ≤ j ∧ j < n * k + n) → ax_i h' b j = ax_i h b j) → Ret none h') : mX10_store g [.ref 77, .ref b, .int (nI n), .int (nI k)] h Ret := by
  refine uX10_store (fun A hA => vX10_store_0 hA ?_)
  have key : ∀ m i : Nat, i + m = n → ∀ hh : ax_H, ax_same (fun x => x = b) h hh → (∀ k', k' < i → ax_i hh b (n * k + k') = ax_i h 88 k') → (∀ j, ¬ (n * k ≤ j ∧ j < n * k + i) → ax_i hh b j = ax_i h b j) → A (3, [some (.ref 77), some (.ref b), some (.int (nI n)), some (.int (nI k)), some (.int (nI i))], [], hh, 0, 0) := by
    intro m
    induction m with
    | zero =>
      intro i hi hh hs e1 e2
      obtain rfl : i = n := by omega
      exact vX10_store_3 hA ⟨fun _ => hq hh hs e1 e2, fun q => absurd (nI_le (Nat.le_refl i) (by omega)) q⟩
    | succ m ih =>
      intro i hi hh hs e1 e2
      have a' := mo_st_same hs a
      obtain ⟨r20, s20⟩ : ax_r hh 77 20 = some 88 ∧ ax_s hh 88 = (11, 164) := a'.2 10 _ rfl
      have s' : ax_s hh b = (11, L) := by rw [hs.2.1]; exact s
      have ea : nI n * nI k + nI i = nI (n * k + i) := by rw [pk_mul, nI_add]
      have e88 : ax_i hh 88 i = ax_i h 88 i := (hs.2.2.2 88 (fun q => hb q.symm)).1 i
      refine vX10_store_3 hA ⟨fun q => absurd q (nI_ge (a := i) (b := n) (by omega) (by omega)), fun _ => ⟨a'.1, 88, r20, sh_k s20, by rw [s20]; exact vp_in_nI (by omega) (by decide), sh_k s', by rw [ea, s']; exact vp_in_nI (by omega) (by omega), ?_⟩⟩
      rw [ea, nI_clamp (by omega), nI_clamp (by omega), ← nI_succ, e88]
      refine ih (i + 1) (by omega) _ (sm_tr hs (sm_pi rfl)) (fun k' hk' => ?_) (fun j hj => ?_)
      · by_cases e : k' = i
        · subst e; rw [ai_eq]
        · rw [ai_ne (by omega)]; exact e1 k' (by omega)
      · rw [ai_ne (by omega)]; exact e2 j (by omega)
  exact key n 0 (by omega) h sm_rf (fun k hk => absurd hk (Nat.not_lt_zero k)) (fun j _ => rfl)
theorem c_mstoreAll {s k : Nat} (a : mo_st h 77) (hs5 : s < 5) (hk : k < 2) (hq : ∀ h', ax_same (fun x => x = 83 + s) h h' → (∀ i, i < lX s → ax_i h' (83 + s) (lX s * k + i) = ax_i h 88 i) → (∀ j, ¬ (lX s * k ≤ j ∧ j < lX s * k + lX s) → ax_i h' (83 + s) j = ax_i h (83 + s) j) → Ret none h') : mX10_storeAll g [.ref 77, .int (nI s), .int (nI k)] h Ret := by
  match s, hs5 with
  | 0, _ => exact eX10_storeAll ⟨fun _ => ⟨a.1, 83, (a.2 5 _ rfl).1, a.1, c_mstore (n := 164) (L := 1312) a (a.2 5 _ rfl).2 (by decide) (by decide) (by omega) (by decide) (fun h' h1 h2 h3 => ⟨rfl, hq h' h1 h2 h3⟩)⟩, fun q => absurd rfl q⟩
  | 1, _ => exact eX10_storeAll ⟨fun q => absurd q (by decide), fun _ => ⟨fun _ => ⟨a.1, 84, (a.2 6 _ rfl).1, a.1, c_mstore (n := 15) (L := 120) a (a.2 6 _ rfl).2 (by decide) (by decide) (by omega) (by decide) (fun h' h1 h2 h3 => ⟨rfl, hq h' h1 h2 h3⟩)⟩, fun q => absurd rfl q⟩⟩
  | 2, _ => exact eX10_storeAll ⟨fun q => absurd q (by decide), fun _ => ⟨fun q => absurd q (by decide), fun _ => ⟨fun _ => ⟨a.1, 85, (a.2 7 _ rfl).1, a.1, c_mstore (n := 19) (L := 152) a (a.2 7 _ rfl).2 (by decide) (by decide) (by omega) (by decide) (fun h' h1 h2 h3 => ⟨rfl, hq h' h1 h2 h3⟩)⟩, fun q => absurd rfl q⟩⟩⟩
  | 3, _ => exact eX10_storeAll ⟨fun q => absurd q (by decide), fun _ => ⟨fun q => absurd q (by decide), fun _ => ⟨fun q => absurd q (by decide), fun _ => ⟨fun _ => ⟨a.1, 86, (a.2 8 _ rfl).1, a.1, c_mstore (n := 17) (L := 136) a (a.2 8 _ rfl).2 (by decide) (by decide) (by omega) (by decide) (fun h' h1 h2 h3 => ⟨rfl, hq h' h1 h2 h3⟩)⟩, fun q => absurd rfl q⟩⟩⟩⟩
  | 4, _ => exact eX10_storeAll ⟨fun q => absurd q (by decide), fun _ => ⟨fun q => absurd q (by decide), fun _ => ⟨fun q => absurd q (by decide), fun _ => ⟨fun q => absurd q (by decide), fun _ => ⟨a.1, 87, (a.2 9 _ rfl).1, a.1, c_mstore (n := 19) (L := 152) a (a.2 9 _ rfl).2 (by decide) (by decide) (by omega) (by decide) (fun h' h1 h2 h3 => ⟨rfl, hq h' h1 h2 h3⟩)⟩⟩⟩⟩⟩
/-- the reference's rows anew, its images as they were -/
theorem mi_new {h' : ax_H} {S' : sT} (s : ax_same (fun b => 77 ≤ b ∧ b ≤ 101) h h') (iok : im_ok Im) (a : mi_at h S Im) (t : ml_at h' 77 0 S') (c : ∀ j, 1 ≤ j → j ≤ 10 → ∀ i, rwl j ≤ i → ax_i h' (77 + j) i = ax_i h (77 + j) i) : mi_at h' S' Im := by
  have e102 : ∀ k, ax_i h' 102 k = ax_i h 102 k := (s.2.2.2 102 (by omega)).1
  refine ⟨mo_st_same s a.1, t, fun k hk => ⟨fun e => by rw [e102]; exact (a.2.2 k hk).1 e, fun S'' e => ?_⟩⟩
  obtain ⟨b1, b2⟩ := (a.2.2 k hk).2 S'' e
  refine ⟨by rw [e102]; exact b1, ml_moved (tk_nb (iok k S'' hk e)).1 (tk_nb (iok k S'' hk e)).2 (fun j j1 j2 i hi => c j j1 j2 _ ?_) b2⟩
  rw [Nat.mul_succ]; omega
/-- a republic as the reference has read it -/
def rq_at (h : ax_H) (D : rD) : Prop := (dH D ≤ 12 ∧ dP D ≤ 6) ∧ ax_i h 88 0 = nI (dH D) ∧ ax_i h 88 1 = nI (dP D) ∧ (∀ p, p < dP D → ax_i h 88 (2 + p) = dpu D p) ∧ (∀ k, k < 6 → ax_i h 88 (8 + k) = dwo D k) ∧ (∀ k, k < 6 → ax_i h 88 (14 + k) = dmo D k) ∧ (∀ p q, p < dP D → q < dH D → ax_i h 88 (20 + 12 * p + q) = dde D p q) ∧ ∀ p q, p < dP D → q < dH D → ax_i h 88 (92 + 12 * p + q) = dlo D p q
def rl_at (h : ax_H) (s n : Nat) (C : Nat → Nat → Int32) : Prop := n ≤ lm s ∧ ax_i h 88 0 = nI n ∧ ∀ i j, i < n → j < lw s → ax_i h 88 (1 + lw s * i + j) = C i j
/-- the reference behind a reading -/
def mr_at (h : ax_H) (s : Nat) (R : rT) : Prop := ax_i h 80 0 = r_f R ∧ ax_i h 81 0 = r_p R ∧ (r_f R = 0 → (s = 0 → rq_at h (r_D R)) ∧ (1 ≤ s → rl_at h s (r_N R) (r_C R)))
def mr_F : Nat → Prop := fun a => a = 77 ∨ a = 80 ∨ a = 81 ∨ a = 88 ∨ a = 89
theorem dis2 {w j k o : Nat} (e : j ≠ k) (ho : o < w) : ¬ (w * k ≤ w * j + o ∧ w * j + o < w * k + w) := by
  intro q
  rcases Nat.lt_or_ge j k with z | z
  · have : w * (j + 1) ≤ w * k := Nat.mul_le_mul_left w z
    rw [Nat.mul_succ] at this
    omega
  · have : w * (k + 1) ≤ w * j := Nat.mul_le_mul_left w (by omega)
    rw [Nat.mul_succ] at this
    omega
theorem ml_put {h9 h21 : ax_H} {s k : Nat} {R : rT} (T : ml_at h9 77 0 (s_flt S 0 (-1))) (ok : s_ok S) (hs5 : s < 5) (hkz : k ≤ s_z S s)
    (e82 : ∀ q, q < 5 → ax_i h21 82 q = nI (if q = s then (if s_z S s < k + 1 then k + 1 else s_z S s) else s_z S q))
    (eo : ∀ q, q < 5 → q ≠ s → ∀ i, ax_i h21 (83 + q) i = ax_i h9 (83 + q) i)
    (es : ∀ i, ¬ (lX s * k ≤ i ∧ i < lX s * k + lX s) → ax_i h21 (83 + s) i = ax_i h9 (83 + s) i)
    (et : ∀ i, i < lX s → ax_i h21 (83 + s) (lX s * k + i) = ax_i h21 88 i)
    (e79 : ax_i h21 79 0 = 0) (e80 : ax_i h21 80 0 = 0) (e81 : ax_i h21 81 0 = r_p R) (e78 : ∀ i, ax_i h21 78 i = ax_i h9 78 i)
    (hR : (s = 0 → rq_at h21 (r_D R)) ∧ (1 ≤ s → rl_at h21 s (r_N R) (r_C R))) : ml_at h21 77 0 (s_put S s k R) := by
  obtain ⟨⟨a1, a2, a3⟩, a4, a5, a6, a7⟩ := T
  have lt : ∀ q j, j < (if q = s then (if s_z S s < k + 1 then k + 1 else s_z S s) else s_z S q) → ¬ (q = s ∧ j = k) → j < s_z S q := by
    intro q j hj e
    by_cases eq : q = s
    · rw [if_pos eq] at hj
      have : j ≠ k := fun z => e ⟨eq, z⟩
      rw [eq]
      by_cases w : s_z S s < k + 1
      · rw [if_pos w] at hj; omega
      · rw [if_neg w] at hj; exact hj
    · rw [if_neg eq] at hj; exact hj
  refine ⟨⟨fun q hq => ?_, fun j hj => ?_, fun q j h1 h5 hj => ?_⟩, e79, e80, e81, fun i hi => ?_⟩
  · rw [Nat.mul_zero, Nat.zero_add]; exact e82 q hq
  · show rm_at h21 77 (328 * 0 + 164 * j) (if s = 0 ∧ j = k then r_D R else s_D S j)
    rw [Nat.mul_zero, Nat.zero_add]
    by_cases e : s = 0 ∧ j = k
    · obtain ⟨rfl, rfl⟩ := e
      rw [if_pos ⟨rfl, rfl⟩]
      obtain ⟨⟨b1, b2⟩, c1, c2, c3, c4, c5, c6, c7⟩ := hR.1 rfl
      have c : ∀ x o : Nat, o < 164 → x = 164 * j + o → ax_i h21 (77 + 6) x = ax_i h21 88 o := fun x o ho hx => by rw [hx]; exact et o ho
      exact ⟨⟨b1, b2⟩, (c _ 0 (by omega) rfl).trans c1, (c _ 1 (by omega) rfl).trans c2, fun p hp => (c _ (2 + p) (by omega) (by omega)).trans (c3 p hp), fun k hk => (c _ (8 + k) (by omega) (by omega)).trans (c4 k hk), fun k hk => (c _ (14 + k) (by omega) (by omega)).trans (c5 k hk), fun p q hp hq => (c _ (20 + 12 * p + q) (by omega) (by omega)).trans (c6 p q hp hq), fun p q hp hq => (c _ (92 + 12 * p + q) (by omega) (by omega)).trans (c7 p q hp hq)⟩
    · rw [if_neg e]
      have hj' : j < s_z S 0 := lt 0 j hj (fun z => e ⟨z.1.symm, z.2⟩)
      have := a2 j hj'
      rw [Nat.mul_zero, Nat.zero_add] at this
      refine rm_moved (fun o ho => ?_) this
      by_cases z : s = 0
      · subst z
        exact es _ (dis2 (w := 164) (fun w => e ⟨rfl, w⟩) ho)
      · exact eo 0 (by decide) (fun w => z w.symm) _
  · show ax_i h21 (77 + 6 + q) (2 * lW q * 0 + lW q * j) = nI (if q = s ∧ j = k then r_N R else s_N S q j) ∧ ∀ i jj, i < (if q = s ∧ j = k then r_N R else s_N S q j) → jj < lw q → ax_i h21 (77 + 6 + q) (2 * lW q * 0 + lW q * j + 1 + lw q * i + jj) = (if q = s ∧ j = k then r_C R else s_C S q j) i jj
    rw [Nat.mul_zero, Nat.zero_add, show 77 + 6 + q = 83 + q by omega]
    have hX := lX_W h1 h5
    have hbig : ∀ n i jj, n ≤ lm q → i < n → jj < lw q → 1 + lw q * i + jj < lW q := by
      intro n i jj hn hi hj
      have : lw q * (i + 1) ≤ lw q * lm q := Nat.mul_le_mul_left _ (by omega)
      rw [Nat.mul_succ, Nat.mul_comm (lw q) (lm q)] at this
      have := (lW_rwl h1 h5).2
      omega
    by_cases e : q = s ∧ j = k
    · obtain ⟨rfl, rfl⟩ := e
      rw [if_pos ⟨rfl, rfl⟩, if_pos ⟨rfl, rfl⟩]
      obtain ⟨n1, n2, n3⟩ := hR.2 h1
      rw [hX] at et
      have w0 := (lX_rwl h5).2.1
      refine ⟨(et 0 (by omega)).trans n2, fun i jj hi hj => ?_⟩
      rw [show lW q * j + 1 + lw q * i + jj = lW q * j + (1 + lw q * i + jj) by omega]
      exact (et _ (hbig _ i jj n1 hi hj)).trans (n3 i jj hi hj)
    · rw [if_neg e, if_neg e]
      have hj' : j < s_z S q := lt q j hj e
      obtain ⟨b1, b2⟩ := a3 q j h1 h5 hj'
      have b1 : ax_i h9 (77 + 6 + q) (2 * lW q * 0 + lW q * j) = nI (s_N S q j) := b1
      have b2 : ∀ i jj, i < s_N S q j → jj < lw q → ax_i h9 (77 + 6 + q) (2 * lW q * 0 + lW q * j + 1 + lw q * i + jj) = s_C S q j i jj := b2
      rw [Nat.mul_zero, Nat.zero_add, show 77 + 6 + q = 83 + q by omega] at b1
      have nb := (ok.1.2.2 q j h1 h5 hj').1
      have w0 := (lX_rwl h5).2.1
      have same : ∀ o, o < lW q → ax_i h21 (83 + q) (lW q * j + o) = ax_i h9 (83 + q) (lW q * j + o) := by
        intro o ho
        by_cases z : q = s
        · subst z
          rw [hX] at es
          exact es _ (dis2 (fun w => e ⟨rfl, w⟩) ho)
        · exact eo q h5 z _
      refine ⟨(same 0 (by omega)).trans b1, fun i jj hi hj => ?_⟩
      have := b2 i jj hi hj
      rw [Nat.mul_zero, Nat.zero_add, show 77 + 6 + q = 83 + q by omega] at this
      rw [show lW q * j + 1 + lw q * i + jj = lW q * j + (1 + lw q * i + jj) by omega] at this ⊢
      exact (same _ (hbig _ i jj nb hi hj)).trans this
  · have := a7 i hi
    rw [Nat.mul_zero, Nat.zero_add] at this ⊢
    exact (e78 i).trans this
end
