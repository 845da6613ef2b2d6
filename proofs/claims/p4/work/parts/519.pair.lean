section
variable {g : ax_G} {h : ax_H} {S : sT} {Im : Nat → Option sT} {tp : Nat → Nat} {B : Nat}
/-! the whole state, on both sides -/
def IV (h : ax_H) (S : sT) (Im : Nat → Option sT) (tp : Nat → Nat) : Prop := ci_at h S Im tp ∧ mi_at h S Im ∧ s_ok S ∧ im_ok Im
def inv (B : Nat) (h : ax_H) : Prop := ∃ S Im tp, IV h S Im tp ∧ 103 ≤ h.1 ∧ h.1 ≤ B
theorem iv_tc (a : IV h S Im tp) : tc h (s_z S) (s_D S) (s_N S) (s_C S) := tc_of a.1 a.2.1 a.2.2.1
theorem mi_fr {F : Nat → Prop} {h1 : ax_H} (s : ax_same F h h1) (i : ∀ x, 77 ≤ x → x ≤ 102 → ¬ F x) (a : mi_at h S Im) : mi_at h1 S Im := mi_ag (P := fun b => 77 ≤ b ∧ b ≤ 102) (ag_same s (fun x hx => i x hx.1 hx.2)) (fun b h1 h2 => ⟨h1, h2⟩) a
theorem ci_fr {F : Nat → Prop} {h1 : ax_H} (s : ax_same F h h1) (i : ∀ x, (x < 77 ∨ 103 ≤ x) → ¬ F x) (a : ci_at h S Im tp) : ci_at h1 S Im tp := ci_ag (P := fun b => b < 77 ∨ 103 ≤ b) (ag_same s i) (fun b hb => hb) (by rw [s.1]; exact Nat.le_refl _) a
/-- a query of the class -/
theorem iv_cl {h1 : ax_H} (s : ax_same cl_F h h1) (a : IV h S Im tp) : IV h1 S Im tp := ⟨ci_cl s a.1, mi_fr s (fun x h1 h2 q => by unfold cl_F at q; omega) a.2.1, a.2.2⟩
/-- a query of the reference -/
theorem iv_md {h1 : ax_H} (s : ax_same md_F h h1) (a : IV h S Im tp) : IV h1 S Im tp := ⟨ci_fr s (fun x hx q => by unfold md_F at q; omega) a.1, mi_md s a.2.1, a.2.2⟩
theorem iv_inv {h1 : ax_H} (a : IV h1 S Im tp) (e : h1.1 = h.1) (b : 103 ≤ h.1 ∧ h.1 ≤ B) : inv B h1 := ⟨S, Im, tp, a, by omega, by omega⟩
/-- class and reference answer, one behind the other; each any number -/
def prN (m9 m10 : List Value → ax_H → (Option Value → ax_H → Prop) → Prop) (as bs : List Value) (h : ax_H) (I : ax_H → Prop) : Prop := ∀ Ret : Option Value → ax_H → Prop, (∀ (v : Int32) (h1 : ax_H), (ax_s h1 77).1 = 10 → (∀ Ret2 : Option Value → ax_H → Prop, (∀ (v2 : Int32) h2, I h2 → Ret2 (some (.int v2)) h2) → m10 bs h1 Ret2) → Ret (some (.int v)) h1) → m9 as h Ret
def prM (m9 m10 : List Value → ax_H → (Option Value → ax_H → Prop) → Prop) (as bs : List Value) (h : ax_H) (I : ax_H → Prop) : Prop := ∀ Ret : Option Value → ax_H → Prop, (∀ (v : Int64) (h1 : ax_H), (ax_s h1 77).1 = 10 → (∀ Ret2 : Option Value → ax_H → Prop, (∀ (v2 : Int64) h2, I h2 → Ret2 (some (.long v2)) h2) → m10 bs h1 Ret2) → Ret (some (.long v)) h1) → m9 as h Ret
/-- both answer the same -/
def prI (m9 m10 : List Value → ax_H → (Option Value → ax_H → Prop) → Prop) (as bs : List Value) (h : ax_H) (I : ax_H → Prop) : Prop := ∀ Ret : Option Value → ax_H → Prop, (∀ (v : Int32) (h1 : ax_H), (ax_s h1 77).1 = 10 → (∀ Ret2 : Option Value → ax_H → Prop, (∀ h2, I h2 → Ret2 (some (.int v)) h2) → m10 bs h1 Ret2) → Ret (some (.int v)) h1) → m9 as h Ret
def prL (m9 m10 : List Value → ax_H → (Option Value → ax_H → Prop) → Prop) (as bs : List Value) (h : ax_H) (I : ax_H → Prop) : Prop := ∀ Ret : Option Value → ax_H → Prop, (∀ (v : Int64) (h1 : ax_H), (ax_s h1 77).1 = 10 → (∀ Ret2 : Option Value → ax_H → Prop, (∀ h2, I h2 → Ret2 (some (.long v)) h2) → m10 bs h1 Ret2) → Ret (some (.long v)) h1) → m9 as h Ret
theorem prI_N {m9 m10 : List Value → ax_H → (Option Value → ax_H → Prop) → Prop} {as bs : List Value} {I : ax_H → Prop} (p : prI m9 m10 as bs h I) : prN m9 m10 as bs h I := fun Ret K => p Ret (fun v h1 s c => K v h1 s (fun Ret2 k2 => c Ret2 (fun h2 i2 => k2 v h2 i2)))
theorem prL_M {m9 m10 : List Value → ax_H → (Option Value → ax_H → Prop) → Prop} {as bs : List Value} {I : ax_H → Prop} (p : prL m9 m10 as bs h I) : prM m9 m10 as bs h I := fun Ret K => p Ret (fun v h1 s c => K v h1 s (fun Ret2 k2 => c Ret2 (fun h2 i2 => k2 v h2 i2)))
/-- a query on both sides with one answer -/
theorem pr_q {m9 m10 : List Value → ax_H → (Option Value → ax_H → Prop) → Prop} {as bs : List Value} (v : Int32) (a : IV h S Im tp) (b : 103 ≤ h.1 ∧ h.1 ≤ B) (c9 : ∀ Ret : Option Value → ax_H → Prop, (∀ h', ax_same cl_F h h' → Ret (some (.int v)) h') → m9 as h Ret) (c10 : ∀ (h1 : ax_H) (Ret : Option Value → ax_H → Prop), IV h1 S Im tp → (∀ h', ax_same md_F h1 h' → Ret (some (.int v)) h') → m10 bs h1 Ret) : prI m9 m10 as bs h (inv B) := fun Ret K => c9 Ret (fun h1 s1 => have a1 := iv_cl s1 a; K v h1 a1.2.1.1.1 (fun Ret2 k2 => c10 h1 Ret2 a1 (fun h2 s2 => k2 h2 (iv_inv (h := h) (iv_md s2 a1) (by rw [s2.1, s1.1]) b))))
theorem pr_ql {m9 m10 : List Value → ax_H → (Option Value → ax_H → Prop) → Prop} {as bs : List Value} (v : Int64) (a : IV h S Im tp) (b : 103 ≤ h.1 ∧ h.1 ≤ B) (c9 : ∀ Ret : Option Value → ax_H → Prop, (∀ h', ax_same cl_F h h' → Ret (some (.long v)) h') → m9 as h Ret) (c10 : ∀ (h1 : ax_H) (Ret : Option Value → ax_H → Prop), IV h1 S Im tp → (∀ h', ax_same md_F h1 h' → Ret (some (.long v)) h') → m10 bs h1 Ret) : prL m9 m10 as bs h (inv B) := fun Ret K => c9 Ret (fun h1 s1 => have a1 := iv_cl s1 a; K v h1 a1.2.1.1.1 (fun Ret2 k2 => c10 h1 Ret2 a1 (fun h2 s2 => k2 h2 (iv_inv (h := h) (iv_md s2 a1) (by rw [s2.1, s1.1]) b))))
/-- a query on both sides, each with any answer -/
theorem pr_n {m9 m10 : List Value → ax_H → (Option Value → ax_H → Prop) → Prop} {as bs : List Value} (a : IV h S Im tp) (b : 103 ≤ h.1 ∧ h.1 ≤ B) (c9 : ∀ Ret : Option Value → ax_H → Prop, (∀ (v : Int32) h', ax_same cl_F h h' → Ret (some (.int v)) h') → m9 as h Ret) (c10 : ∀ (h1 : ax_H) (Ret : Option Value → ax_H → Prop), IV h1 S Im tp → (∀ (v : Int32) h', ax_same md_F h1 h' → Ret (some (.int v)) h') → m10 bs h1 Ret) : prN m9 m10 as bs h (inv B) := fun Ret K => c9 Ret (fun v h1 s1 => have a1 := iv_cl s1 a; K v h1 a1.2.1.1.1 (fun Ret2 k2 => c10 h1 Ret2 a1 (fun v2 h2 s2 => k2 v2 h2 (iv_inv (h := h) (iv_md s2 a1) (by rw [s2.1, s1.1]) b))))
theorem pr_m {m9 m10 : List Value → ax_H → (Option Value → ax_H → Prop) → Prop} {as bs : List Value} (a : IV h S Im tp) (b : 103 ≤ h.1 ∧ h.1 ≤ B) (c9 : ∀ Ret : Option Value → ax_H → Prop, (∀ (v : Int64) h', ax_same cl_F h h' → Ret (some (.long v)) h') → m9 as h Ret) (c10 : ∀ (h1 : ax_H) (Ret : Option Value → ax_H → Prop), IV h1 S Im tp → (∀ (v : Int64) h', ax_same md_F h1 h' → Ret (some (.long v)) h') → m10 bs h1 Ret) : prM m9 m10 as bs h (inv B) := fun Ret K => c9 Ret (fun v h1 s1 => have a1 := iv_cl s1 a; K v h1 a1.2.1.1.1 (fun Ret2 k2 => c10 h1 Ret2 a1 (fun v2 h2 s2 => k2 v2 h2 (iv_inv (h := h) (iv_md s2 a1) (by rw [s2.1, s1.1]) b))))
/-! what is told, fed, cut, kept -/
theorem s_ok_feed {a b c d e : Int32} (ok : s_ok S) (hn : s_n S + 20 ≤ 600) : s_ok (s_feed S a b c d e) := ⟨ok.1, hn, ap20_ok ok.2.2⟩
theorem s_ok_end {n : Nat} (ok : s_ok S) (hn : n ≤ s_n S) : s_ok (s_end S n) := ⟨ok.1, Nat.le_trans hn ok.2.1, ok.2.2⟩
theorem s_ok_flt {f p : Int32} (ok : s_ok S) : s_ok (s_flt S f p) := ⟨ok.1, Nat.zero_le _, ok.2.2⟩
theorem s_ok_put {s k : Nat} {R : rT} (ok : s_ok S) (hs : s < 5) (hk : k < 2) (hkz : k ≤ s_z S s) (rk : (s = 0 → rd_ok (r_D R)) ∧ (1 ≤ s → ln_ok s (r_N R) (r_C R))) : s_ok (s_put S s k R) := by
  have lt : ∀ q j, j < (if q = s then (if s_z S s < k + 1 then k + 1 else s_z S s) else s_z S q) → ¬ (q = s ∧ j = k) → j < s_z S q := by
    intro q j hj e
    by_cases eq : q = s
    · rw [if_pos eq] at hj
      have : j ≠ k := fun z => e ⟨eq, z⟩
      rw [eq]
      by_cases w : s_z S s < k + 1
      · rw [if_pos w] at hj; omega
      · rw [if_neg w] at hj; exact hj
    · rw [if_neg eq] at hj; exact hj
  refine ⟨⟨fun q hq => ?_, fun j hj => ?_, fun q j h1 h5 hj => ?_⟩, Nat.zero_le _, ok.2.2⟩
  · show (if q = s then (if s_z S s < k + 1 then k + 1 else s_z S s) else s_z S q) ≤ 2
    have := ok.1.1 q hq
    split
    · rename_i e; subst e
      split <;> omega
    · exact this
  · show rd_ok (if s = 0 ∧ j = k then r_D R else s_D S j)
    by_cases e : s = 0 ∧ j = k
    · rw [if_pos e]; exact rk.1 e.1
    · rw [if_neg e]; exact ok.1.2.1 j (lt 0 j hj (fun z => e ⟨z.1.symm, z.2⟩))
  · show ln_ok q (if q = s ∧ j = k then r_N R else s_N S q j) (if q = s ∧ j = k then r_C R else s_C S q j)
    by_cases e : q = s ∧ j = k
    · rw [if_pos e, if_pos e, e.1]; exact rk.2 (by omega)
    · rw [if_neg e, if_neg e]; exact ok.1.2.2 q j h1 h5 (lt q j hj e)
theorem s_at_bd {s k : Nat} {y : Int32} (ok : s_ok S) (hs : s < 5) (e : s_at S s y = some k) : k < 2 ∧ k ≤ s_z S s := by
  have z2 : s_z S s ≤ 2 := ok.1.1 s hs
  unfold s_at at e
  split at e
  · split at e
    · cases e; omega
    · cases e
  · split at e
    · rename_i q
      obtain ⟨j, hj, rfl⟩ := sp_in_ix (by omega) q
      cases e
      rw [nI_clamp (by omega)]; omega
    · cases e
theorem tx_no {x1 x2 : Int32} {s k : Nat} (no : sp_in x1 5 = false ∨ ∃ s, s < 5 ∧ x1 = nI s ∧ s_at S s x2 = none) (hs : s < 5) (e : x1 = nI s) (f : s_at S s x2 = some k) : False := by
  rcases no with q | ⟨s2, h2, e2, f2⟩
  · rw [e, sp_in_nI (by decide) hs] at q; cases q
  · have : s2 = s := (nI_eq (by omega) (by omega)).mp (e2.symm.trans e)
    subst this
    rw [f] at f2; cases f2
theorem g_text (a : IV h S Im tp) (b : 103 ≤ h.1 ∧ h.1 ≤ B) (x1 x2 : Int32) : prI (mX9_text g) (mX10_text g) [.ref 0, .int x1, .int x2] [.ref 77, .int x1, .int x2] h (inv B) := by
  obtain ⟨ci, mi, ok, iok⟩ := id a
  have rd10 : ∀ (s : Nat) (h0 : ax_H) (Ret' : Option Value → ax_H → Prop), s < 5 → mi_at h0 (s_flt S 0 (-1)) Im → ax_i h0 77 12 = nI (s_n S) → (∀ h', ax_same mr_F h0 h' → (∀ i, 1 ≤ i → ax_i h' 80 i = ax_i h0 80 i ∧ ax_i h' 81 i = ax_i h0 81 i) → mr_at h' s (rdT (s_t S) (s_n S) s) → Ret' (some (.int (b2i (decide (r_f (rdT (s_t S) (s_n S) s) = 0))))) h') → mX10_readText g [.ref 77, .int (nI s)] h0 Ret' := fun s h0 Ret' hs m e hq => c_mreadText m.1 ok.2.2 ok.2.1 (fun i hi => by have := m.2.1.2.2.2.2 i hi; rw [Nat.mul_zero, Nat.zero_add] at this; exact this) hs e hq
  have fin : ∀ (S' : sT) (h1 : ax_H), fr_c h h1 → ci_at h1 S' Im tp → ∀ h2, ax_same (fun b => 77 ≤ b ∧ b ≤ 102) h1 h2 → mi_at h2 S' Im → s_ok S' → inv B h2 := fun S' h1 fr c1 h2 s2 m2 ok' => ⟨S', Im, tp, ⟨ci_fr s2 (fun x hx q => by omega) c1, m2, ok', iok⟩, by rw [s2.1, fr.1]; exact b.1, by rw [s2.1, fr.1]; exact b.2⟩
  intro Ret K
  refine q9_text (PR := fun s => rdT (s_t S) (s_n S) s) ci ok (fun s h0 Ret' hs re s2 et hq => c_read re s2 et ok.2.1 hs hq) (fun no h1 fr c1 => ?_) (fun s k hs e f nf h1 fr c1 => ?_) (fun s k hs e f nf h1 fr c1 => ?_)
  · have m := mi_ag fr.2 (fun b h1 h2 => ⟨h1, h2⟩) mi
    exact K _ h1 m.1.1 (fun Ret2 k2 => q10_text (PR := fun s => rdT (s_t S) (s_n S) s) m ok iok rd10 (fun _ h2 s2 m2 => k2 h2 (fin _ h1 fr c1 h2 s2 m2 (s_ok_flt ok))) (fun s k hs e f => (tx_no no hs e f).elim) (fun s k hs e f => (tx_no no hs e f).elim))
  · have m := mi_ag fr.2 (fun b h1 h2 => ⟨h1, h2⟩) mi
    refine K _ h1 m.1.1 (fun Ret2 k2 => q10_text (PR := fun s => rdT (s_t S) (s_n S) s) m ok iok rd10 (fun no => (tx_no no hs e f).elim) (fun s2 k3 hs2 e2 f2 nf2 h2 sm2 m2 => ?_) (fun s2 k3 hs2 e2 f2 nf2 => ?_))
    · have : s2 = s := (nI_eq (by omega) (by omega)).mp (e2.symm.trans e)
      subst this
      exact k2 h2 (fin _ h1 fr c1 h2 sm2 m2 (s_ok_flt ok))
    · have : s2 = s := (nI_eq (by omega) (by omega)).mp (e2.symm.trans e)
      subst this
      exact absurd nf2 nf
  · have m := mi_ag fr.2 (fun b h1 h2 => ⟨h1, h2⟩) mi
    refine K _ h1 m.1.1 (fun Ret2 k2 => q10_text (PR := fun s => rdT (s_t S) (s_n S) s) m ok iok rd10 (fun no => (tx_no no hs e f).elim) (fun s2 k3 hs2 e2 f2 nf2 => ?_) (fun s2 k3 hs2 e2 f2 nf2 h2 sm2 m2 => ?_))
    · have : s2 = s := (nI_eq (by omega) (by omega)).mp (e2.symm.trans e)
      subst this
      exact absurd nf nf2
    · have : s2 = s := (nI_eq (by omega) (by omega)).mp (e2.symm.trans e)
      subst this
      rw [f] at f2; cases f2
      have kb := s_at_bd ok hs f
      exact k2 h2 (fin _ h1 fr c1 h2 sm2 m2 (s_ok_put ok hs kb.1 kb.2 (rdT_ok s2 nf)))
theorem g_feed (a : IV h S Im tp) (b : 103 ≤ h.1 ∧ h.1 ≤ B) (x1 x2 x3 x4 x5 : Int32) : prI (mX9_feed g) (mX10_feed g) [.ref 0, .int x1, .int x2, .int x3, .int x4, .int x5] [.ref 77, .int x1, .int x2, .int x3, .int x4, .int x5] h (inv B) := by
  obtain ⟨ci, mi, ok, iok⟩ := id a
  intro Ret K
  refine q9_feed ci.1.1 ci.2.1 ok.2.1 (fun no => K _ h mi.1.1 (fun Ret2 k2 => q10_feed mi ok.2.1 (fun _ h2 s2 => k2 h2 (iv_inv (h := h) (iv_md s2 a) s2.1 b)) (fun y => absurd y no))) (fun y h1 s1 t1 => ?_)
  have m1 := mi_fr s1 (fun x _ _ => by omega) mi
  have c1 := (ci_new (sm_mono s1 (fun x hx => by omega)) ci t1 (re_st_same s1 (fun q _ _ => by omega) ci.1.2.2.1)).1
  exact K _ h1 m1.1.1 (fun Ret2 k2 => q10_feed m1 ok.2.1 (fun no => absurd y no) (fun _ h2 s2 m2 => k2 h2 ⟨_, Im, tp, ⟨ci_fr s2 (fun x hx q => by omega) c1, m2, s_ok_feed ok y, iok⟩, by rw [s2.1, s1.1]; exact b.1, by rw [s2.1, s1.1]; exact b.2⟩))
theorem g_end (a : IV h S Im tp) (b : 103 ≤ h.1 ∧ h.1 ≤ B) (x1 : Int32) : prI (mX9_end g) (mX10_end g) [.ref 0, .int x1] [.ref 77, .int x1] h (inv B) := by
  obtain ⟨ci, mi, ok, iok⟩ := id a
  intro Ret K
  refine q9_end ci.1.1 ci.2.1 ok.2.1 (fun no => K _ h mi.1.1 (fun Ret2 k2 => q10_end mi ok.2.1 (fun _ h2 s2 => k2 h2 (iv_inv (h := h) (iv_md s2 a) s2.1 b)) (fun n y e => absurd ⟨n, y, e⟩ no))) (fun n y e h1 s1 t1 => ?_)
  have m1 := mi_fr s1 (fun x _ _ => by omega) mi
  have c1 := (ci_new (sm_mono s1 (fun x hx => by omega)) ci t1 (re_st_same s1 (fun q _ _ => by omega) ci.1.2.2.1)).1
  refine K _ h1 m1.1.1 (fun Ret2 k2 => q10_end m1 ok.2.1 (fun no => absurd ⟨n, y, e⟩ no) (fun n2 y2 e2 h2 s2 m2 => ?_))
  have : n2 = n := (nI_eq (by have := ok.2.1; omega) (by have := ok.2.1; omega)).mp (e2.symm.trans e)
  subst this
  exact k2 h2 ⟨_, Im, tp, ⟨ci_fr s2 (fun x hx q => by omega) c1, m2, s_ok_end ok y, iok⟩, by rw [s2.1, s1.1]; exact b.1, by rw [s2.1, s1.1]; exact b.2⟩
theorem g_fault (a : IV h S Im tp) (b : 103 ≤ h.1 ∧ h.1 ≤ B) (x1 : Int32) : prI (mX9_fault g) (mX10_fault g) [.ref 0, .int x1] [.ref 77, .int x1] h (inv B) := pr_q (s_fault S x1) a b (fun Ret k => q9_fault a.1.1.1 a.1.2.1 (k h sm_rf)) (fun h1 Ret a1 k => q10_fault a1.2.1 k)
theorem g_count (a : IV h S Im tp) (b : 103 ≤ h.1 ∧ h.1 ≤ B) (x1 : Int32) : prI (mX9_count g) (mX10_count g) [.ref 0, .int x1] [.ref 77, .int x1] h (inv B) := pr_q (s_count (s_z S) x1) a b (fun Ret k => q9_count a.1.1.1 a.1.2.1 (k h sm_rf)) (fun h1 Ret a1 k => q10_count a1.2.1 k)
theorem g_day (a : IV h S Im tp) (b : 103 ≤ h.1 ∧ h.1 ≤ B) (x1 x2 : Int32) : prI (mX9_day g) (mX10_day g) [.ref 0, .int x1, .int x2] [.ref 77, .int x1, .int x2] h (inv B) := pr_q _ a b (fun Ret k => q9_day (iv_tc a) (k h sm_rf)) (fun h1 Ret a1 k => q10_day (iv_tc a1) k)
theorem g_errand (a : IV h S Im tp) (b : 103 ≤ h.1 ∧ h.1 ≤ B) (x1 x2 x3 : Int32) : prI (mX9_errand g) (mX10_errand g) [.ref 0, .int x1, .int x2, .int x3] [.ref 77, .int x1, .int x2, .int x3] h (inv B) := pr_q _ a b (fun Ret k => q9_errand (iv_tc a) (k h sm_rf)) (fun h1 Ret a1 k => q10_errand (iv_tc a1) k)
theorem g_train (a : IV h S Im tp) (b : 103 ≤ h.1 ∧ h.1 ≤ B) (x1 x2 x3 : Int32) : prI (mX9_train g) (mX10_train g) [.ref 0, .int x1, .int x2, .int x3] [.ref 77, .int x1, .int x2, .int x3] h (inv B) := pr_q _ a b (fun Ret k => q9_train (iv_tc a) (k h sm_rf)) (fun h1 Ret a1 k => q10_train (iv_tc a1) k)
theorem g_sight (a : IV h S Im tp) (b : 103 ≤ h.1 ∧ h.1 ≤ B) (x1 x2 x3 : Int32) : prI (mX9_sight g) (mX10_sight g) [.ref 0, .int x1, .int x2, .int x3] [.ref 77, .int x1, .int x2, .int x3] h (inv B) := pr_q _ a b (fun Ret k => q9_sight (iv_tc a) (k h sm_rf)) (fun h1 Ret a1 k => q10_sight (iv_tc a1) k)
theorem ix_no {x : Int32} {k : Nat} (no : x < 0 ∨ 3 ≤ x) (hk : k < 3) (e : x = nI k) : False := by
  rw [e] at no
  rcases no with q | q
  · exact nI_pos (by omega) q
  · exact nI_ge (a := k) (b := 3) hk (by decide) q
theorem im_ok_set {k : Nat} (iok : im_ok Im) (ok : s_ok S) : im_ok (im_set Im k S) := fun j S' hj e => by
  unfold im_set at e
  by_cases z : j = k
  · rw [if_pos z] at e; cases e; exact ok
  · rw [if_neg z] at e; exact iok j S' hj e
theorem g_image (a : IV h S Im tp) (b : 103 ≤ h.1 ∧ h.1 ≤ B) (hB : B < 600000) (x1 : Int32) : prI (mX9_image g) (mX10_image g) [.ref 0, .int x1] [.ref 77, .int x1] h (inv (B + 33)) := by
  obtain ⟨ci, mi, ok, iok⟩ := id a
  intro Ret K
  refine q9_image ci ok b.1 (by omega) (fun no => K _ h mi.1.1 (fun Ret2 k2 => q10_image mi ok iok (fun _ h2 s2 => k2 h2 (iv_inv (h := h) (iv_md s2 a) s2.1 ⟨b.1, by omega⟩)) (fun k hk e => (ix_no no hk e).elim))) (fun k hk e h1 tp1 z1 z2 g1 c1 => ?_)
  have m1 := mi_ag g1 (fun b h1 h2 => ⟨h1, h2⟩) mi
  refine K _ h1 m1.1.1 (fun Ret2 k2 => q10_image m1 ok iok (fun no => (ix_no no hk e).elim) (fun k3 hk3 e3 h2 s2 m2 => ?_))
  have : k3 = k := (nI_eq (by omega) (by omega)).mp (e3.symm.trans e)
  subst this
  exact k2 h2 ⟨S, _, tp1, ⟨ci_fr s2 (fun x hx q => by omega) c1, m2, ok, im_ok_set iok ok⟩, by rw [s2.1]; omega, by rw [s2.1]; omega⟩
theorem g_again (a : IV h S Im tp) (b : 103 ≤ h.1 ∧ h.1 ≤ B) (x1 : Int32) : prI (mX9_again g) (mX10_again g) [.ref 0, .int x1] [.ref 77, .int x1] h (inv B) := by
  obtain ⟨ci, mi, ok, iok⟩ := id a
  intro Ret K
  refine q9_again ci iok (fun no => K _ h mi.1.1 (fun Ret2 k2 => q10_again mi ok iok (fun _ h2 s2 => k2 h2 (iv_inv (h := h) (iv_md s2 a) s2.1 b)) (fun k S' hk e im => ?_))) (fun k S' hk e im h1 z1 g1 c1 => ?_)
  · rcases no with q | ⟨k3, hk3, e3, im3⟩
    · exact (ix_no q hk e).elim
    · have : k3 = k := (nI_eq (by omega) (by omega)).mp (e3.symm.trans e)
      subst this
      rw [im] at im3; cases im3
  · have m1 := mi_ag g1 (fun b h1 h2 => ⟨h1, h2⟩) mi
    refine K _ h1 m1.1.1 (fun Ret2 k2 => q10_again m1 ok iok (fun no => ?_) (fun k3 S3 hk3 e3 im3 h2 s2 m2 => ?_))
    · rcases no with q | ⟨k3, hk3, e3, im3⟩
      · exact (ix_no q hk e).elim
      · have : k3 = k := (nI_eq (by omega) (by omega)).mp (e3.symm.trans e)
        subst this
        rw [im] at im3; cases im3
    · have : k3 = k := (nI_eq (by omega) (by omega)).mp (e3.symm.trans e)
      subst this
      rw [im] at im3; cases im3
      exact k2 h2 ⟨S', Im, tp, ⟨ci_fr s2 (fun x hx q => by omega) c1, m2, iok k3 S' hk im, iok⟩, by rw [s2.1, z1]; exact b.1, by rw [s2.1, z1]; exact b.2⟩
end
