section
section
variable {g : ax_G} {h : ax_H} {S : sT} {Im : Nat → Option sT} {tp : Nat → Nat} {B : Nat}
/-! the whole state, on both sides -/
def IV (h : ax_H) (S : sT) (Im : Nat → Option sT) (tp : Nat → Nat) : Prop := ci_at h S Im tp ∧ mi_at h S Im ∧ s_ok S ∧ im_ok Im
def inv (B : Nat) (h : ax_H) : Prop := ∃ S Im tp, IV h S Im tp ∧ 103 ≤ h.1 ∧ h.1 ≤ B
theorem iv_tc (a : IV h S Im tp) : tc h (s_z S) (s_D S) (s_N S) (s_C S) := tc_of a.1 a.2.1 a.2.2.1
theorem mi_fr {F : Nat → Prop} {h1 : ax_H} (s : ax_same F h h1) (i : ∀ x, 77 ≤ x → x ≤ 102 → ¬ F x) (a : mi_at h S Im) : mi_at h1 S Im := mi_ag (P := fun b => 77 ≤ b ∧ b ≤ 102) (ag_same s (fun x hx => i x hx.1 hx.2)) (fun b h1 h2 => ⟨h1, h2⟩) a
theorem ci_fr {F : Nat → Prop} {h1 : ax_H} (s : ax_same F h h1) (i : ∀ x, (x < 77 ∨ 103 ≤ x) → ¬ F x) (a : ci_at h S Im tp) : ci_at h1 S Im tp := ci_ag (P := fun b => b < 77 ∨ 103 ≤ b) (ag_same s i) (fun b hb => hb) (by rw [s.1]; exact Nat.le_refl _) a
/-- a query of the class -/
theorem iv_cl {h1 : ax_H} (s : ax_same cl_F h h1) (a : IV h S Im tp) : IV h1 S Im tp := ⟨ci_cl s a.1, mi_fr s (fun x h1 h2 q => by unfold cl_F at q; omega) a.2.1, a.2.2⟩
/-- a query of the reference -/
theorem iv_md {h1 : ax_H} (s : ax_same md_F h h1) (a : IV h S Im tp) : IV h1 S Im tp := ⟨ci_fr s (fun x hx q => by unfold md_F at q; omega) a.1, mi_md s a.2.1, a.2.2⟩
theorem iv_inv {h1 : ax_H} (a : IV h1 S Im tp) (e : h1.1 = h.1) (b : 103 ≤ h.1 ∧ h.1 ≤ B) : inv B h1 := ⟨S, Im, tp, a, by omega, by omega⟩
/-- class and reference answer, one behind the other; each any number -/
def prN (m9 m10 : List Value → ax_H → (Option Value → ax_H → Prop) → Prop) (as bs : List Value) (h : ax_H) (I : ax_H → Prop) : Prop := ∀ Ret : Option Value → ax_H → Prop, (∀ (v : Int32) (h1 : ax_H), (ax_s h1 77).1 = 10 → (∀ Ret2 : Option Value → ax_H → Prop, (∀ (v2 : Int32) h2, I h2 → Ret2 (some (.int v2)) h2) → m10 bs h1 Ret2) → Ret (some (.int v)) h1) → m9 as h Ret
def prM (m9 m10 : List Value → ax_H → (Option Value → ax_H → Prop) → Prop) (as bs : List Value) (h : ax_H) (I : ax_H → Prop) : Prop := ∀ Ret : Option Value → ax_H → Prop, (∀ (v : Int64) (h1 : ax_H), (ax_s h1 77).1 = 10 → (∀ Ret2 : Option Value → ax_H → Prop, (∀ (v2 : Int64) h2, I h2 → Ret2 (some (.long v2)) h2) → m10 bs h1 Ret2) → Ret (some (.long v)) h1) → m9 as h Ret
/-- both answer the same -/
def prI (m9 m10 : List Value → ax_H → (Option Value → ax_H → Prop) → Prop) (as bs : List Value) (h : ax_H) (I : ax_H → Prop) : Prop := ∀ Ret : Option Value → ax_H → Prop, (∀ (v : Int32) (h1 : ax_H), (ax_s h1 77).1 = 10 → (∀ Ret2 : Option Value → ax_H → Prop, (∀ h2, I h2 → Ret2 (some (.int v)) h2) → m10 bs h1 Ret2) → Ret (some (.int v)) h1) → m9 as h Ret
def prL (m9 m10 : List Value → ax_H → (Option Value → ax_H → Prop) → Prop) (as bs : List Value) (h : ax_H) (I : ax_H → Prop) : Prop := ∀ Ret : Option Value → ax_H → Prop, (∀ (v : Int64) (h1 : ax_H), (ax_s h1 77).1 = 10 → (∀ Ret2 : Option Value → ax_H → Prop, (∀ h2, I h2 → Ret2 (some (.long v)) h2) → m10 bs h1 Ret2) → Ret (some (.long v)) h1) → m9 as h Ret
theorem prI_N {m9 m10 : List Value → ax_H → (Option Value → ax_H → Prop) → Prop} {as bs : List Value} {I : ax_H → Prop} (p : prI m9 m10 as bs h I) : prN m9 m10 as bs h I := fun Ret K => p Ret (fun v h1 s c => K v h1 s (fun Ret2 k2 => c Ret2 (fun h2 i2 => k2 v h2 i2)))
theorem prL_M {m9 m10 : List Value → ax_H → (Option Value → ax_H → Prop) → Prop} {as bs : List Value} {I : ax_H → Prop} (p : prL m9 m10 as bs h I) : prM m9 m10 as bs h I := fun Ret K => p Ret (fun v h1 s c => K v h1 s (fun Ret2 k2 => c Ret2 (fun h2 i2 => k2 v h2 i2)))
/-- a query on both sides with one answer -/
theorem pr_q {m9 m10 : List Value → ax_H → (Option Value → ax_H → Prop) → Prop} {as bs : List Value} (v : Int32) (a : IV h S Im tp) (b : 103 ≤ h.1 ∧ h.1 ≤ B) (c9 : ∀ Ret : Option Value → ax_H → Prop, (∀ h', ax_same cl_F h h' → Ret (some (.int v)) h') → m9 as h Ret) (c10 : ∀ (h1 : ax_H) (Ret : Option Value → ax_H → Prop), IV h1 S Im tp → (∀ h', ax_same md_F h1 h' → Ret (some (.int v)) h') → m10 bs h1 Ret) : prI m9 m10 as bs h (inv B) := fun Ret K => c9 Ret (fun h1 s1 => have a1 := iv_cl s1 a; K v h1 a1.2.1.1.1 (fun Ret2 k2 => c10 h1 Ret2 a1 (fun h2 s2 => k2 h2 (iv_inv (h := h) (iv_md s2 a1) (by rw [s2.1, s1.1]) b))))
theorem pr_ql {m9 m10 : List Value → ax_H → (Option Value → ax_H → Prop) → Prop} {as bs : List Value} (v : Int64) (a : IV h S Im tp) (b : 103 ≤ h.1 ∧ h.1 ≤ B) (c9 : ∀ Ret : Option Value → ax_H → Prop, (∀ h', ax_same cl_F h h' → Ret (some (.long v)) h') → m9 as h Ret) (c10 : ∀ (h1 : ax_H) (Ret : Option Value → ax_H → Prop), IV h1 S Im tp → (∀ h', ax_same md_F h1 h' → Ret (some (.long v)) h') → m10 bs h1 Ret) : prL m9 m10 as bs h (inv B) := fun Ret K => c9 Ret (fun h1 s1 => have a1 := iv_cl s1 a; K v h1 a1.2.1.1.1 (fun Ret2 k2 => c10 h1 Ret2 a1 (fun h2 s2 => k2 h2 (iv_inv (h := h) (iv_md s2 a1) (by rw [s2.1, s1.1]) b))))
/-- a query on both sides, each with any answer -/
theorem pr_n {m9 m10 : List Value → ax_H → (Option Value → ax_H → Prop) → Prop} {as bs : List Value} (a : IV h S Im tp) (b : 103 ≤ h.1 ∧ h.1 ≤ B) (c9 : ∀ Ret : Option Value → ax_H → Prop, (∀ (v : Int32) h', ax_same cl_F h h' → Ret (some (.int v)) h') → m9 as h Ret) (c10 : ∀ (h1 : ax_H) (Ret : Option Value → ax_H → Prop), IV h1 S Im tp → (∀ (v : Int32) h', ax_same md_F h1 h' → Ret (some (.int v)) h') → m10 bs h1 Ret) : prN m9 m10 as bs h (inv B) := fun Ret K => c9 Ret (fun v h1 s1 => have a1 := iv_cl s1 a; K v h1 a1.2.1.1.1 (fun Ret2 k2 => c10 h1 Ret2 a1 (fun v2 h2 s2 => k2 v2 h2 (iv_inv (h := h) (iv_md s2 a1) (by rw [s2.1, s1.1]) b))))
theorem pr_m {m9 m10 : List Value → ax_H → (Option Value → ax_H → Prop) → Prop} {as bs : List Value} (a : IV h S Im tp) (b : 103 ≤ h.1 ∧ h.1 ≤ B) (c9 : ∀ Ret : Option Value → ax_H → Prop, (∀ (v : Int64) h', ax_same cl_F h h' → Ret (some (.long v)) h') → m9 as h Ret) (c10 : ∀ (h1 : ax_H) (Ret : Option Value → ax_H → Prop), IV h1 S Im tp → (∀ (v : Int64) h', ax_same md_F h1 h' → Ret (some (.long v)) h') → m10 bs h1 Ret) : prM m9 m10 as bs h (inv B) := fun Ret K => c9 Ret (fun v h1 s1 => have a1 := iv_cl s1 a; K v h1 a1.2.1.1.1 (fun Ret2 k2 => c10 h1 Ret2 a1 (fun v2 h2 s2 => k2 v2 h2 (iv_inv (h := h) (iv_md s2 a1) (by rw [s2.1, s1.1]) b))))
/-! what is told, fed, cut, kept -/
theorem s_ok_feed {a b c d e : Int32} (ok : s_ok S) (hn : s_n S + 20 ≤ 600) : s_ok (s_feed S a b c d e) := ⟨ok.1, hn, ap20_ok ok.2.2⟩
theorem s_ok_end {n : Nat} (ok : s_ok S) (hn : n ≤ s_n S) : s_ok (s_end S n) := ⟨ok.1, Nat.le_trans hn ok.2.1, ok.2.2⟩
theorem s_ok_flt {f p : Int32} (ok : s_ok S) : s_ok (s_flt S f p) := ⟨ok.1, Nat.zero_le _, ok.2.2⟩
theorem s_ok_put {s k : Nat} {R : rT} (ok : s_ok S) (hs : s < 5) (hk : k < 2) (hkz : k ≤ s_z S s) (rk : (s = 0 → rd_ok (r_D R)) ∧ (1 ≤ s → ln_ok s (r_N R) (r_C R))) : s_ok (s_put S s k R) := by
  have lt : ∀ q j, j < (if q = s then (if s_z S s < k + 1 then k + 1 else s_z S s) else s_z S q) → ¬ (q = s ∧ j = k) → j < s_z S q := by
    intro q j hj e
    by_cases eq : q = s
    · rw [if_pos eq] at hj
      have : j ≠ k := fun z => e ⟨eq, z⟩
      rw [eq]
      by_cases w : s_z S s < k + 1
      · rw [if_pos w] at hj; omega
      · rw [if_neg w] at hj; exact hj
    · rw [if_neg eq] at hj; exact hj
  refine ⟨⟨fun q hq => ?_, fun j hj => ?_, fun q j h1 h5 hj => ?_⟩, Nat.zero_le _, ok.2.2⟩
  · show (if q = s then (if s_z S s < k + 1 then k + 1 else s_z S s) else s_z S q) ≤ 2
    have := ok.1.1 q hq
    split
    · rename_i e; subst e
      split <;> omega
    · exact this
  · show rd_ok (if s = 0 ∧ j = k then r_D R else s_D S j)
    by_cases e : s = 0 ∧ j = k
    · rw [if_pos e]; exact rk.1 e.1
    · rw [if_neg e]; exact ok.1.2.1 j (lt 0 j hj (fun z => e ⟨z.1.symm, z.2⟩))
  · show ln_ok q (if q = s ∧ j = k then r_N R else s_N S q j) (if q = s ∧ j = k then r_C R else s_C S q j)
    by_cases e : q = s ∧ j = k
    · rw [if_pos e, if_pos e, e.1]; exact rk.2 (by omega)
    · rw [if_neg e, if_neg e]; exact ok.1.2.2 q j h1 h5 (lt q j hj e)
theorem s_at_bd {s k : Nat} {y : Int32} (ok : s_ok S) (hs : s < 5) (e : s_at S s y = some k) : k < 2 ∧ k ≤ s_z S s := by
  have z2 : s_z S s ≤ 2 := ok.1.1 s hs
  unfold s_at at e
  split at e
  · split at e
    · cases e; omega
    · cases e
  · split at e
    · rename_i q
      obtain ⟨j, hj, rfl⟩ := sp_in_ix (by omega) q
      cases e
      rw [nI_clamp (by omega)]; omega
    · cases e
theorem tx_no {x1 x2 : Int32} {s k : Nat} (no : sp_in x1 5 = false ∨ ∃ s, s < 5 ∧ x1 = nI s ∧ s_at S s x2 = none) (hs : s < 5) (e : x1 = nI s) (f : s_at S s x2 = some k) : False := by
  rcases no with q | ⟨s2, h2, e2, f2⟩
  · rw [e, sp_in_nI (by decide) hs] at q; cases q
  · have : s2 = s := (nI_eq (by omega) (by omega)).mp (e2.symm.trans e)
    subst this
    rw [f] at f2; cases f2
theorem g_text (a : IV h S Im tp) (b : 103 ≤ h.1 ∧ h.1 ≤ B) (x1 x2 : Int32) : prI (mX9_text g) (mX10_text g) [.ref 0, .int x1, .int x2] [.ref 77, .int x1, .int x2] h (inv B) := by
  obtain ⟨ci, mi, ok, iok⟩ := id a
  have rd10 : ∀ (s : Nat) (h0 : ax_H) (Ret' : Option Value → ax_H → Prop), s < 5 → mi_at h0 (s_flt S 0 (-1)) Im → ax_i h0 77 12 = nI (s_n S) → (∀ h', ax_same mr_F h0 h' → (∀ i, 1 ≤ i → ax_i h' 80 i = ax_i h0 80 i ∧ ax_i h' 81 i = ax_i h0 81 i) → mr_at h' s (rdT (s_t S) (s_n S) s) → Ret' (some (.int (b2i (decide (r_f (rdT (s_t S) (s_n S) s) = 0))))) h') → mX10_readText g [.ref 77, .int (nI s)] h0 Ret' := fun s h0 Ret' hs m e hq => c_mreadText m.1 ok.2.2 ok.2.1 (fun i hi => by have := m.2.1.2.2.2.2 i hi; rw [Nat.mul_zero, Nat.zero_add] at this; exact this) hs e hq
  have fin : ∀ (S' : sT) (h1 : ax_H), fr_c h h1 → ci_at h1 S' Im tp → ∀ h2, ax_same (fun b => 77 ≤ b ∧ b ≤ 102) h1 h2 → mi_at h2 S' Im → s_ok S' → inv B h2 := fun S' h1 fr c1 h2 s2 m2 ok' => ⟨S', Im, tp, ⟨ci_fr s2 (fun x hx q => by omega) c1, m2, ok', iok⟩, by rw [s2.1, fr.1]; exact b.1, by rw [s2.1, fr.1]; exact b.2⟩
  intro Ret K
  refine q9_text (PR := fun s => rdT (s_t S) (s_n S) s) ci ok (fun s h0 Ret' hs re s2 et hq => c_read re s2 et ok.2.1 hs hq) (fun no h1 fr c1 => ?_) (fun s k hs e f nf h1 fr c1 => ?_) (fun s k hs e f nf h1 fr c1 => ?_)
  · have m := mi_ag fr.2 (fun b h1 h2 => ⟨h1, h2⟩) mi
    exact K _ h1 m.1.1 (fun Ret2 k2 => q10_text (PR := fun s => rdT (s_t S) (s_n S) s) m ok iok rd10 (fun _ h2 s2 m2 => k2 h2 (fin _ h1 fr c1 h2 s2 m2 (s_ok_flt ok))) (fun s k hs e f => (tx_no no hs e f).elim) (fun s k hs e f => (tx_no no hs e f).elim))
  · have m := mi_ag fr.2 (fun b h1 h2 => ⟨h1, h2⟩) mi
    refine K _ h1 m.1.1 (fun Ret2 k2 => q10_text (PR := fun s => rdT (s_t S) (s_n S) s) m ok iok rd10 (fun no => (tx_no no hs e f).elim) (fun s2 k3 hs2 e2 f2 nf2 h2 sm2 m2 => ?_) (fun s2 k3 hs2 e2 f2 nf2 => ?_))
    · have : s2 = s := (nI_eq (by omega) (by omega)).mp (e2.symm.trans e)
      subst this
      exact k2 h2 (fin _ h1 fr c1 h2 sm2 m2 (s_ok_flt ok))
    · have : s2 = s := (nI_eq (by omega) (by omega)).mp (e2.symm.trans e)
      subst this
      exact absurd nf2 nf
  · have m := mi_ag fr.2 (fun b h1 h2 => ⟨h1, h2⟩) mi
    refine K _ h1 m.1.1 (fun Ret2 k2 => q10_text (PR := fun s => rdT (s_t S) (s_n S) s) m ok iok rd10 (fun no => (tx_no no hs e f).elim) (fun s2 k3 hs2 e2 f2 nf2 => ?_) (fun s2 k3 hs2 e2 f2 nf2 h2 sm2 m2 => ?_))
    · have : s2 = s := (nI_eq (by omega) (by omega)).mp (e2.symm.trans e)
      subst this
      exact absurd nf nf2
    · have : s2 = s := (nI_eq (by omega) (by omega)).mp (e2.symm.trans e)
      subst this
      rw [f] at f2; cases f2
      have kb := s_at_bd ok hs f
      exact k2 h2 (fin _ h1 fr c1 h2 sm2 m2 (s_ok_put ok hs kb.1 kb.2 (rdT_ok s2 nf)))
theorem g_feed (a : IV h S Im tp) (b : 103 ≤ h.1 ∧ h.1 ≤ B) (x1 x2 x3 x4 x5 : Int32) : prI (mX9_feed g) (mX10_feed g) [.ref 0, .int x1, .int x2, .int x3, .int x4, .int x5] [.ref 77, .int x1, .int x2, .int x3, .int x4, .int x5] h (inv B) := by
  obtain ⟨ci, mi, ok, iok⟩ := id a
  intro Ret K
  refine q9_feed ci.1.1 ci.2.1 ok.2.1 (fun no => K _ h mi.1.1 (fun Ret2 k2 => q10_feed mi ok.2.1 (fun _ h2 s2 => k2 h2 (iv_inv (h := h) (iv_md s2 a) s2.1 b)) (fun y => absurd y no))) (fun y h1 s1 t1 => ?_)
  have m1 := mi_fr s1 (fun x _ _ => by omega) mi
  have c1 := (ci_new (sm_mono s1 (fun x hx => by omega)) ci t1 (re_st_same s1 (fun q _ _ => by omega) ci.1.2.2.1)).1
  exact K _ h1 m1.1.1 (fun Ret2 k2 => q10_feed m1 ok.2.1 (fun no => absurd y no) (fun _ h2 s2 m2 => k2 h2 ⟨_, Im, tp, ⟨ci_fr s2 (fun x hx q => by omega) c1, m2, s_ok_feed ok y, iok⟩, by rw [s2.1, s1.1]; exact b.1, by rw [s2.1, s1.1]; exact b.2⟩))
theorem g_end (a : IV h S Im tp) (b : 103 ≤ h.1 ∧ h.1 ≤ B) (x1 : Int32) : prI (mX9_end g) (mX10_end g) [.ref 0, .int x1] [.ref 77, .int x1] h (inv B) := by
  obtain ⟨ci, mi, ok, iok⟩ := id a
  intro Ret K
  refine q9_end ci.1.1 ci.2.1 ok.2.1 (fun no => K _ h mi.1.1 (fun Ret2 k2 => q10_end mi ok.2.1 (fun _ h2 s2 => k2 h2 (iv_inv (h := h) (iv_md s2 a) s2.1 b)) (fun n y e => absurd ⟨n, y, e⟩ no))) (fun n y e h1 s1 t1 => ?_)
  have m1 := mi_fr s1 (fun x _ _ => by omega) mi
  have c1 := (ci_new (sm_mono s1 (fun x hx => by omega)) ci t1 (re_st_same s1 (fun q _ _ => by omega) ci.1.2.2.1)).1
  refine K _ h1 m1.1.1 (fun Ret2 k2 => q10_end m1 ok.2.1 (fun no => absurd ⟨n, y, e⟩ no) (fun n2 y2 e2 h2 s2 m2 => ?_))
  have : n2 = n := (nI_eq (by have := ok.2.1; omega) (by have := ok.2.1; omega)).mp (e2.symm.trans e)
  subst this
  exact k2 h2 ⟨_, Im, tp, ⟨ci_fr s2 (fun x hx q => by omega) c1, m2, s_ok_end ok y, iok⟩, by rw [s2.1, s1.1]; exact b.1, by rw [s2.1, s1.1]; exact b.2⟩
theorem g_fault (a : IV h S Im tp) (b : 103 ≤ h.1 ∧ h.1 ≤ B) (x1 : Int32) : prI (mX9_fault g) (mX10_fault g) [.ref 0, .int x1] [.ref 77, .int x1] h (inv B) := pr_q (s_fault S x1) a b (fun Ret k => q9_fault a.1.1.1 a.1.2.1 (k h sm_rf)) (fun h1 Ret a1 k => q10_fault a1.2.1 k)
theorem g_count (a : IV h S Im tp) (b : 103 ≤ h.1 ∧ h.1 ≤ B) (x1 : Int32) : prI (mX9_count g) (mX10_count g) [.ref 0, .int x1] [.ref 77, .int x1] h (inv B) := pr_q (s_count (s_z S) x1) a b (fun Ret k => q9_count a.1.1.1 a.1.2.1 (k h sm_rf)) (fun h1 Ret a1 k => q10_count a1.2.1 k)
theorem g_day (a : IV h S Im tp) (b : 103 ≤ h.1 ∧ h.1 ≤ B) (x1 x2 : Int32) : prI (mX9_day g) (mX10_day g) [.ref 0, .int x1, .int x2] [.ref 77, .int x1, .int x2] h (inv B) := pr_q _ a b (fun Ret k => q9_day (iv_tc a) (k h sm_rf)) (fun h1 Ret a1 k => q10_day (iv_tc a1) k)
theorem g_errand (a : IV h S Im tp) (b : 103 ≤ h.1 ∧ h.1 ≤ B) (x1 x2 x3 : Int32) : prI (mX9_errand g) (mX10_errand g) [.ref 0, .int x1, .int x2, .int x3] [.ref 77, .int x1, .int x2, .int x3] h (inv B) := pr_q _ a b (fun Ret k => q9_errand (iv_tc a) (k h sm_rf)) (fun h1 Ret a1 k => q10_errand (iv_tc a1) k)
theorem g_train (a : IV h S Im tp) (b : 103 ≤ h.1 ∧ h.1 ≤ B) (x1 x2 x3 : Int32) : prI (mX9_train g) (mX10_train g) [.ref 0, .int x1, .int x2, .int x3] [.ref 77, .int x1, .int x2, .int x3] h (inv B) := pr_q _ a b (fun Ret k => q9_train (iv_tc a) (k h sm_rf)) (fun h1 Ret a1 k => q10_train (iv_tc a1) k)
theorem g_sight (a : IV h S Im tp) (b : 103 ≤ h.1 ∧ h.1 ≤ B) (x1 x2 x3 : Int32) : prI (mX9_sight g) (mX10_sight g) [.ref 0, .int x1, .int x2, .int x3] [.ref 77, .int x1, .int x2, .int x3] h (inv B) := pr_q _ a b (fun Ret k => q9_sight (iv_tc a) (k h sm_rf)) (fun h1 Ret a1 k => q10_sight (iv_tc a1) k)
theorem ix_no {x : Int32} {k : Nat} (no : x < 0 ∨ 3 ≤ x) (hk : k < 3) (e : x = nI k) : False := by
  rw [e] at no
  rcases no with q | q
  · exact nI_pos (by omega) q
  · exact nI_ge (a := k) (b := 3) hk (by decide) q
theorem im_ok_set {k : Nat} (iok : im_ok Im) (ok : s_ok S) : im_ok (im_set Im k S) := fun j S' hj e => by
  unfold im_set at e
  by_cases z : j = k
  · rw [if_pos z] at e; cases e; exact ok
  · rw [if_neg z] at e; exact iok j S' hj e
theorem g_image (a : IV h S Im tp) (b : 103 ≤ h.1 ∧ h.1 ≤ B) (hB : B < 600000) (x1 : Int32) : prI (mX9_image g) (mX10_image g) [.ref 0, .int x1] [.ref 77, .int x1] h (inv (B + 33)) := by
  obtain ⟨ci, mi, ok, iok⟩ := id a
  intro Ret K
  refine q9_image ci ok b.1 (by omega) (fun no => K _ h mi.1.1 (fun Ret2 k2 => q10_image mi ok iok (fun _ h2 s2 => k2 h2 (iv_inv (h := h) (iv_md s2 a) s2.1 ⟨b.1, by omega⟩)) (fun k hk e => (ix_no no hk e).elim))) (fun k hk e h1 tp1 z1 z2 g1 c1 => ?_)
  have m1 := mi_ag g1 (fun b h1 h2 => ⟨h1, h2⟩) mi
  refine K _ h1 m1.1.1 (fun Ret2 k2 => q10_image m1 ok iok (fun no => (ix_no no hk e).elim) (fun k3 hk3 e3 h2 s2 m2 => ?_))
  have : k3 = k := (nI_eq (by omega) (by omega)).mp (e3.symm.trans e)
  subst this
  exact k2 h2 ⟨S, _, tp1, ⟨ci_fr s2 (fun x hx q => by omega) c1, m2, ok, im_ok_set iok ok⟩, by rw [s2.1]; omega, by rw [s2.1]; omega⟩
theorem g_again (a : IV h S Im tp) (b : 103 ≤ h.1 ∧ h.1 ≤ B) (x1 : Int32) : prI (mX9_again g) (mX10_again g) [.ref 0, .int x1] [.ref 77, .int x1] h (inv B) := by
  obtain ⟨ci, mi, ok, iok⟩ := id a
  intro Ret K
  refine q9_again ci iok (fun no => K _ h mi.1.1 (fun Ret2 k2 => q10_again mi ok iok (fun _ h2 s2 => k2 h2 (iv_inv (h := h) (iv_md s2 a) s2.1 b)) (fun k S' hk e im => ?_))) (fun k S' hk e im h1 z1 g1 c1 => ?_)
  · rcases no with q | ⟨k3, hk3, e3, im3⟩
    · exact (ix_no q hk e).elim
    · have : k3 = k := (nI_eq (by omega) (by omega)).mp (e3.symm.trans e)
      subst this
      rw [im] at im3; cases im3
  · have m1 := mi_ag g1 (fun b h1 h2 => ⟨h1, h2⟩) mi
    refine K _ h1 m1.1.1 (fun Ret2 k2 => q10_again m1 ok iok (fun no => ?_) (fun k3 S3 hk3 e3 im3 h2 s2 m2 => ?_))
    · rcases no with q | ⟨k3, hk3, e3, im3⟩
      · exact (ix_no q hk e).elim
      · have : k3 = k := (nI_eq (by omega) (by omega)).mp (e3.symm.trans e)
        subst this
        rw [im] at im3; cases im3
    · have : k3 = k := (nI_eq (by omega) (by omega)).mp (e3.symm.trans e)
      subst this
      rw [im] at im3; cases im3
      exact k2 h2 ⟨S', Im, tp, ⟨ci_fr s2 (fun x hx q => by omega) c1, m2, iok k3 S' hk im, iok⟩, by rw [s2.1, z1]; exact b.1, by rw [s2.1, z1]; exact b.2⟩
end
end

section
section
variable {g : ax_G} {Ret : Option Value → ax_H → Prop} {h : ax_H} {z : Nat → Nat} {DD : Nat → rD} {N : Nat → Nat → Nat} {C : Nat → Nat → Nat → Nat → Int32} {S : sT} {Im : Nat → Option sT} {tp : Nat → Nat} {B : Nat}
theorem g_value (a : IV h S Im tp) (b : 103 ≤ h.1 ∧ h.1 ≤ B) (x1 x2 x3 : Int32) : prI (mX9_value g) (mX10_value g) [.ref 0, .int x1, .int x2, .int x3] [.ref 77, .int x1, .int x2, .int x3] h (inv B) := pr_q _ a b (fun Ret k => q9_value (iv_tc a) k) (fun h1 Ret a1 k => q10_value (iv_tc a1) k)
theorem g_odds (a : IV h S Im tp) (b : 103 ≤ h.1 ∧ h.1 ≤ B) (x1 x2 x3 : Int32) : prI (mX9_odds g) (mX10_odds g) [.ref 0, .int x1, .int x2, .int x3] [.ref 77, .int x1, .int x2, .int x3] h (inv B) := pr_q _ a b (fun Ret k => q9_odds (iv_tc a) k) (fun h1 Ret a1 k => q10_odds (iv_tc a1) k)
theorem g_mean (a : IV h S Im tp) (b : 103 ≤ h.1 ∧ h.1 ≤ B) (x1 x2 x3 : Int32) : prI (mX9_mean g) (mX10_mean g) [.ref 0, .int x1, .int x2, .int x3] [.ref 77, .int x1, .int x2, .int x3] h (inv B) := pr_q _ a b (fun Ret k => q9_mean (iv_tc a) k) (fun h1 Ret a1 k => q10_mean (iv_tc a1) k)
theorem g_gain (a : IV h S Im tp) (b : 103 ≤ h.1 ∧ h.1 ≤ B) (x1 x2 x3 x4 : Int32) : prI (mX9_gain g) (mX10_gain g) [.ref 0, .int x1, .int x2, .int x3, .int x4] [.ref 77, .int x1, .int x2, .int x3, .int x4] h (inv B) := pr_q _ a b (fun Ret k => q9_gain (iv_tc a) k) (fun h1 Ret a1 k => q10_gain (iv_tc a1) k)
theorem g_wish (a : IV h S Im tp) (b : 103 ≤ h.1 ∧ h.1 ≤ B) (x1 x2 : Int32) : prI (mX9_wish g) (mX10_wish g) [.ref 0, .int x1, .int x2] [.ref 77, .int x1, .int x2] h (inv B) := pr_q _ a b (fun Ret k => q9_wish (iv_tc a) k) (fun h1 Ret a1 k => q10_wish (iv_tc a1) k)
/-! REPUBLIC -/
def s_rb (x : Int32) (D : rD) : Int32 := if x = 0 then nI (dH D) else if x = 1 then nI (dP D) else if x = 2 then rul D else -1000
def s_rep (x : Int32) (D : rD) : Int32 := if ¬ x < 10 ∧ ¬ 16 ≤ x then sp_wo D (x - 10) else if ¬ x < 20 ∧ ¬ 26 ≤ x then sp_mo D (x - 20) else s_rb x D
theorem rep_b {x : Int32} {P0 P1 P2 P3 : Prop} (h0 : x = 0 → P0) (h1 : x = 1 → P1) (h2 : x = 2 → P2) (h3 : ¬ x = 0 → ¬ x = 1 → ¬ x = 2 → P3) : (x = 0 → P0) ∧ (¬ x = 0 → ((x = 1 → P1) ∧ (¬ x = 1 → ((x = 2 → P2) ∧ (¬ x = 2 → P3))))) := ⟨h0, fun a => ⟨h1, fun b => ⟨h2, fun c => h3 a b c⟩⟩⟩
theorem s_rb0 {D : rD} : s_rb 0 D = nI (dH D) := by unfold s_rb; rw [if_pos rfl]
theorem s_rb1 {D : rD} : s_rb 1 D = nI (dP D) := by unfold s_rb; rw [if_neg (by decide), if_pos rfl]
theorem s_rb2 {D : rD} : s_rb 2 D = rul D := by unfold s_rb; rw [if_neg (by decide), if_neg (by decide), if_pos rfl]
theorem s_rb3 {D : rD} {x : Int32} (a : ¬ x = 0) (b : ¬ x = 1) (c : ¬ x = 2) : s_rb x D = -1000 := by unfold s_rb; rw [if_neg a, if_neg b, if_neg c]
theorem q9_republic {x1 x2 : Int32} (a : tc h z DD N C) (hq : ∀ h', ax_same cl_F h h' → Ret (some (.int (qv (z 0) DD x1 (-1000) (s_rep x2)))) h') : mX9_republic g [.ref 0, .int x1, .int x2] h Ret := by
  have z2 := a.2.2.2.2.1 0 (by decide)
  refine eX9_republic ⟨a.1.1, q_begun a (fun q => Or.inr ⟨rfl, ?_⟩) (fun k hk ex ok h' hs xs hc => Or.inl ⟨_, rfl, ?_⟩)⟩
  · have := hq h sm_rf; rwa [qv_no q] at this
  · have hv := hq h' hs
    rw [qv_yes z2 hk ex] at hv
    unfold s_rep at hv
    refine ⟨fun q => ⟨fun q2 => ?_, fun q2 => ⟨fun q3 => ?_, fun q3 => ⟨hc.1.1.1, c_modeOf hc.1 ⟨_, rfl, ?_⟩⟩⟩⟩, fun q => ⟨fun q1 => ⟨fun q2 => ?_, fun q2 => ⟨fun q3 => ?_, fun q3 => ⟨hc.1.1.1, c_modeOf hc.1 ⟨_, rfl, ?_⟩⟩⟩⟩, fun q1 => ⟨hc.1.1.1, c_worthOf hc.1 ⟨_, rfl, ?_⟩⟩⟩⟩
    · rw [if_neg (fun z => z.1 q), if_neg (fun z => z.1 q2)] at hv
      exact rep_b (fun e => ⟨hc.1.1.1, by rw [hc.1.2.2.1.1]; rw [e, s_rb0] at hv; exact hv⟩) (fun e => ⟨hc.1.1.1, by rw [hc.1.2.2.1.2]; rw [e, s_rb1] at hv; exact hv⟩) (fun e => ⟨xs.1, _, xs.2.1.2.2.2.1, hc.2.1.1.1, c_poorest hc.2.1 ⟨_, rfl, by rw [e, s_rb2] at hv; exact hv⟩⟩) (fun e0 e1 e2 => by rw [s_rb3 e0 e1 e2] at hv; exact hv)
    · rw [if_neg (fun z => z.1 q), if_neg (fun z => z.2 q3)] at hv
      exact rep_b (fun e => ⟨hc.1.1.1, by rw [hc.1.2.2.1.1]; rw [e, s_rb0] at hv; exact hv⟩) (fun e => ⟨hc.1.1.1, by rw [hc.1.2.2.1.2]; rw [e, s_rb1] at hv; exact hv⟩) (fun e => ⟨xs.1, _, xs.2.1.2.2.2.1, hc.2.1.1.1, c_poorest hc.2.1 ⟨_, rfl, by rw [e, s_rb2] at hv; exact hv⟩⟩) (fun e0 e1 e2 => by rw [s_rb3 e0 e1 e2] at hv; exact hv)
    · rw [if_neg (fun z => z.1 q), if_pos ⟨q2, q3⟩] at hv; exact hv
    · rw [if_neg (fun z => z.2 q1), if_neg (fun z => z.1 q2)] at hv
      exact rep_b (fun e => ⟨hc.1.1.1, by rw [hc.1.2.2.1.1]; rw [e, s_rb0] at hv; exact hv⟩) (fun e => ⟨hc.1.1.1, by rw [hc.1.2.2.1.2]; rw [e, s_rb1] at hv; exact hv⟩) (fun e => ⟨xs.1, _, xs.2.1.2.2.2.1, hc.2.1.1.1, c_poorest hc.2.1 ⟨_, rfl, by rw [e, s_rb2] at hv; exact hv⟩⟩) (fun e0 e1 e2 => by rw [s_rb3 e0 e1 e2] at hv; exact hv)
    · rw [if_neg (fun z => z.2 q1), if_neg (fun z => z.2 q3)] at hv
      exact rep_b (fun e => ⟨hc.1.1.1, by rw [hc.1.2.2.1.1]; rw [e, s_rb0] at hv; exact hv⟩) (fun e => ⟨hc.1.1.1, by rw [hc.1.2.2.1.2]; rw [e, s_rb1] at hv; exact hv⟩) (fun e => ⟨xs.1, _, xs.2.1.2.2.2.1, hc.2.1.1.1, c_poorest hc.2.1 ⟨_, rfl, by rw [e, s_rb2] at hv; exact hv⟩⟩) (fun e0 e1 e2 => by rw [s_rb3 e0 e1 e2] at hv; exact hv)
    · rw [if_neg (fun z => z.2 q1), if_pos ⟨q2, q3⟩] at hv; exact hv
    · rw [if_pos ⟨q, q1⟩] at hv; exact hv
/-- a number between two -/
theorem i_rng {x : Int32} {a b : Nat} (hb : b < 2 ^ 31) (ha : a ≤ b) (h1 : nI a ≤ x) (h2 : x ≤ nI b) : ∃ n, a ≤ n ∧ n ≤ b ∧ x = nI n := by
  rw [i_le, nI_toInt (by omega)] at h1
  rw [i_le, nI_toInt (by omega)] at h2
  refine ⟨x.toInt.toNat, by omega, by omega, i_inj ?_⟩
  rw [nI_toInt (by omega)]; omega
theorem ni_cs {a b n : Nat} : (OfNat.ofNat a : Int32) + nI (b + n) - OfNat.ofNat b = nI (a + n) := by
  have e1 := ni_c a (b + n)
  have e2 := ni_c b (a + n)
  rw [e1, show a + (b + n) = b + (a + n) by omega, ← e2]
  rw [Int32.sub_eq_add_neg, Int32.add_comm, ← Int32.add_assoc, Int32.add_left_neg, Int32.zero_add]
theorem ni_sb {b n : Nat} : nI (b + n) - OfNat.ofNat b = nI n := by
  rw [← ni_c b n]
  rw [Int32.sub_eq_add_neg, Int32.add_comm, ← Int32.add_assoc, Int32.add_left_neg, Int32.zero_add]
theorem wo_nI {D : rD} {k : Nat} (hk : k < 6) : sp_wo D (nI k) = dwo D k := by
  unfold sp_wo; rw [if_neg (by rintro (q | q); exact nI_pos (by omega) q; exact nI_ge (a := k) (b := 6) hk (by decide) q), nI_clamp (by omega)]
theorem mo_nI {D : rD} {k : Nat} (hk : k < 6) : sp_mo D (nI k) = dmo D k := by
  unfold sp_mo; rw [if_neg (by rintro (q | q); exact nI_pos (by omega) q; exact nI_ge (a := k) (b := 6) hk (by decide) q), nI_clamp (by omega)]
theorem q10_republic {x1 x2 : Int32} (a : tc h z DD N C) (hq : ∀ h', ax_same md_F h h' → Ret (some (.int (qv (z 0) DD x1 (-1000) (s_rep x2)))) h') : mX10_republic g [.ref 77, .int x1, .int x2] h Ret := by
  have z2 := a.2.2.2.2.1 0 (by decide)
  refine eX10_republic ⟨a.2.1.1, ?_⟩
  intro h1
  obtain ⟨a1, T1, hs1⟩ := q_code (v := 0) a.2.1 a.2.2.2.1
  refine ⟨a1.1, q_hand a1 T1 a.2.2.2.2 (fun q => ⟨_, rfl, fun q2 => absurd rfl q2, fun _ => ?_⟩) (fun k hk ex ok h' hs hm => ⟨_, rfl, fun _ => c_min ⟨_, rfl, ?_⟩, fun q => absurd q (by decide)⟩)⟩
  · have := hq _ hs1; rwa [qv_no q] at this
  · have hv := hq h' (sm_tr hs1 hs)
    rw [qv_yes z2 hk ex] at hv
    have mb := hm.1.1
    refine ⟨fun q => ?_, fun q => c_min ⟨_, rfl, fun q2 => c_min ⟨_, rfl, fun q3 => ?_, fun q3 => ?_⟩, fun q2 => ?_⟩⟩
    · obtain ⟨n, n1, n2, rfl⟩ := i_rng (a := 10) (b := 15) (by decide) (by decide) (of_decide_eq_true (b2i_n0.mp q)).1 (of_decide_eq_true (b2i_n0.mp q)).2
      obtain ⟨i, rfl⟩ := Nat.exists_eq_add_of_le n1
      refine ⟨fun q9 => absurd q9 (nI_ge (a := 10 + i) (b := 20) (by omega) (by decide)), fun _ => ⟨mb.1.1, c_mof (i := 8 + i) mb.1 mb.2.1 mb.2.2.2.1 (by omega) ni_cs ⟨_, rfl, ?_⟩⟩⟩
      rw [← Nat.add_assoc, mb.2.2.1.2.2.2.2.1 i (by omega)]
      unfold s_rep at hv
      rw [if_pos ⟨nI_nlt (b := 10) (by omega) (by omega), nI_ge (a := 10 + i) (b := 16) (by omega) (by decide)⟩, show nI (10 + i) - 10 = nI i from ni_sb, wo_nI (by omega)] at hv
      exact hv
    · have nb : ¬ (¬ x2 < 10 ∧ ¬ 16 ≤ x2) := fun w => of_decide_eq_false (b2i_0.mp q) ⟨nt_lt.mp w.1, by have := nt_le.mp w.2; rw [i_lt] at this; rw [i_le]; change x2.toInt < 16 at this; change x2.toInt ≤ 15; omega⟩
      have nc : ¬ (¬ x2 < 20 ∧ ¬ 26 ≤ x2) := fun w => of_decide_eq_false (b2i_0.mp q2) ⟨nt_lt.mp w.1, by have := nt_le.mp w.2; rw [i_lt] at this; rw [i_le]; change x2.toInt < 26 at this; change x2.toInt ≤ 25; omega⟩
      have n01 : ¬ x2 = 0 ∧ ¬ x2 = 1 := ⟨fun e => of_decide_eq_false (b2i_0.mp q3) (by rw [e]; decide), fun e => of_decide_eq_false (b2i_0.mp q3) (by rw [e]; decide)⟩
      unfold s_rep at hv
      rw [if_neg nb, if_neg nc] at hv
      refine ⟨fun q4 => ?_, fun q4 => ⟨mb.1.1, ?_⟩⟩
      · rw [s_rb3 n01.1 n01.2 q4] at hv; exact hv
      · rw [hm.2.2.2]; rw [q4, s_rb2] at hv; exact hv
    · obtain ⟨n, n1, n2, rfl⟩ := i_rng (a := 0) (b := 1) (by decide) (by decide) (of_decide_eq_true (b2i_n0.mp q3)).1 (of_decide_eq_true (b2i_n0.mp q3)).2
      refine ⟨mb.1.1, c_mof (i := n) mb.1 mb.2.1 mb.2.2.2.1 (by omega) rfl ⟨_, rfl, ?_⟩⟩
      unfold s_rep at hv
      rw [if_neg (fun w => w.1 (nI_lt (b := 10) (by omega) (by decide))), if_neg (fun w => w.1 (nI_lt (b := 20) (by omega) (by decide)))] at hv
      match n, n2 with
      | 0, _ => show Ret (some (.int (ax_i h' (77 + 6) (164 * k)))) h'; rw [mb.2.2.1.2.1, ← s_rb0]; exact hv
      | 1, _ => rw [mb.2.2.1.2.2.1, ← s_rb1]; exact hv
    · obtain ⟨n, n1, n2, rfl⟩ := i_rng (a := 20) (b := 25) (by decide) (by decide) (of_decide_eq_true (b2i_n0.mp q2)).1 (of_decide_eq_true (b2i_n0.mp q2)).2
      obtain ⟨i, rfl⟩ := Nat.exists_eq_add_of_le n1
      refine ⟨fun _ => ⟨mb.1.1, c_mof (i := 14 + i) mb.1 mb.2.1 mb.2.2.2.1 (by omega) ni_cs ⟨_, rfl, ?_⟩⟩, fun q9 => absurd (nI_le (a := 20) (b := 20 + i) (by omega) (by omega)) q9⟩
      rw [← Nat.add_assoc, mb.2.2.1.2.2.2.2.2.1 i (by omega)]
      unfold s_rep at hv
      rw [if_neg (fun w => w.2 (nI_le (a := 16) (by omega) (by omega))), if_pos ⟨nI_nlt (b := 20) (by omega) (by omega), nI_ge (a := 20 + i) (b := 26) (by omega) (by decide)⟩, show nI (20 + i) - 20 = nI i from ni_sb, mo_nI (by omega)] at hv
      exact hv
theorem g_republic (a : IV h S Im tp) (b : 103 ≤ h.1 ∧ h.1 ≤ B) (x1 x2 : Int32) : prI (mX9_republic g) (mX10_republic g) [.ref 0, .int x1, .int x2] [.ref 77, .int x1, .int x2] h (inv B) := pr_q _ a b (fun Ret k => q9_republic (iv_tc a) k) (fun h1 Ret a1 k => q10_republic (iv_tc a1) k)
end
end

section
section
variable {g : ax_G} {Ret : Option Value → ax_H → Prop} {h : ax_H} {z : Nat → Nat} {DD : Nat → rD} {N : Nat → Nat → Nat} {C : Nat → Nat → Nat → Nat → Int32} {S : sT} {Im : Nat → Option sT} {tp : Nat → Nat} {B : Nat}
/-! PERSON -/
def s_per (x2 x3 : Int32) (D : rD) : Int32 := if sp_in x2 (dP D) = true then (if x3 = 0 then dpu D x2.toNatClampNeg else if ¬ x3 < 10 ∧ ¬ 10 + nI (dH D) ≤ x3 then sp_de D x2 (x3 - 10) else if ¬ x3 < 30 ∧ ¬ 30 + nI (dH D) ≤ x3 then sp_lo D x2 (x3 - 30) else -2) else -2
theorem q9_person {x1 x2 x3 : Int32} (a : tc h z DD N C) (hq : ∀ h', ax_same cl_F h h' → Ret (some (.int (qv (z 0) DD x1 (-2) (s_per x2 x3)))) h') : mX9_person g [.ref 0, .int x1, .int x2, .int x3] h Ret := by
  have z2 := a.2.2.2.2.1 0 (by decide)
  have hv := hq h sm_rf
  refine eX9_person ⟨a.1.1, _, a.1.2.1.1, a.2.2.1.1.1, c_republicAt a.2.2.1 (fun q => Or.inr ⟨rfl, ?_⟩) (fun k hk ex => ?_)⟩
  · rwa [qv_no q] at hv
  · have rc := a.2.2.1.2.2.1 k hk
    rw [qv_yes z2 hk ex] at hv
    refine Or.inl ⟨_, rfl, rc.1.1, c_hasPerson rc ⟨_, rfl, fun q => ⟨fun q0 => ?_, fun q0 => ?_⟩, fun q => ?_⟩⟩
    · unfold s_per at hv
      rw [if_pos (b2i_n0.mp q), if_neg q0] at hv
      refine ⟨fun q1 => ⟨fun q2 => ?_, fun q2 => ⟨rc.1.1, fun q3 => ?_, fun q3 => ⟨rc.1.1, c_lotAt rc ⟨_, rfl, ?_⟩⟩⟩⟩, fun q1 => ⟨rc.1.1, fun q2 => ⟨fun q3 => ?_, fun q3 => ⟨rc.1.1, fun q4 => ?_, fun q4 => ⟨rc.1.1, c_lotAt rc ⟨_, rfl, ?_⟩⟩⟩⟩, fun q2 => ⟨rc.1.1, c_deedAt rc ⟨_, rfl, ?_⟩⟩⟩⟩
      · rw [if_neg (fun w => w.1 q1), if_neg (fun w => w.1 q2)] at hv; exact hv
      · rw [rc.2.2.1.1] at q3; rw [if_neg (fun w => w.1 q1), if_neg (fun w => w.2 q3)] at hv; exact hv
      · rw [rc.2.2.1.1] at q3; rw [if_neg (fun w => w.1 q1), if_pos ⟨q2, q3⟩] at hv; exact hv
      · rw [rc.2.2.1.1] at q2; rw [if_neg (fun w => w.2 q2), if_neg (fun w => w.1 q3)] at hv; exact hv
      · rw [rc.2.2.1.1] at q2 q4; rw [if_neg (fun w => w.2 q2), if_neg (fun w => w.2 q4)] at hv; exact hv
      · rw [rc.2.2.1.1] at q2 q4; rw [if_neg (fun w => w.2 q2), if_pos ⟨q3, q4⟩] at hv; exact hv
      · rw [rc.2.2.1.1] at q2; rw [if_pos ⟨q1, q2⟩] at hv; exact hv
    · unfold s_per at hv
      rw [if_pos (b2i_n0.mp q), if_pos q0] at hv
      obtain ⟨p, hp, rfl⟩ := sp_in_ix (by have := rc.2.1.2; omega) (b2i_n0.mp q)
      refine ⟨rc.1.1, _, rc.1.2.1.2.2.1, by rw [rc.1.2.2.2.2.1], ?_, ?_⟩
      · rw [rc.1.2.2.2.2.1]; exact nI_in (by have := rc.2.1.2; omega) (by decide)
      · rw [nI_clamp (by have := rc.2.1.2; omega)] at hv ⊢; rw [rc.2.2.2.2.2.1 p hp]; exact hv
    · unfold s_per at hv
      rw [if_neg (by rw [b2i_0.mp q]; decide)] at hv
      exact hv
theorem de_nI {D : rD} {p q : Nat} (hp : p < dP D) (hq : q < dH D) (hP : dP D ≤ 6) (hH : dH D ≤ 12) : sp_de D (nI p) (nI q) = dde D p q := by
  unfold sp_de; rw [sp_in_nI (by omega) hp, sp_in_nI (by omega) hq, nI_clamp (by omega), nI_clamp (by omega)]; rfl
theorem lo_nI {D : rD} {p q : Nat} (hp : p < dP D) (hq : q < dH D) (hP : dP D ≤ 6) (hH : dH D ≤ 12) : sp_lo D (nI p) (nI q) = dlo D p q := by
  unfold sp_lo; rw [sp_in_nI (by omega) hp, sp_in_nI (by omega) hq, nI_clamp (by omega), nI_clamp (by omega)]; rfl
theorem ni_c12 {c p b q : Nat} : (OfNat.ofNat c : Int32) + 12 * nI p + nI (b + q) - OfNat.ofNat b = nI (c + 12 * p + q) := by
  have e : (OfNat.ofNat c : Int32) + 12 * nI p = nI (c + 12 * p) := by
    have := ni_21 (p := p) (q := 0)
    rw [nI_0, Int32.add_zero, Nat.add_zero] at this
    rw [this]; exact ni_c c (12 * p)
  rw [e, nI_add, show c + 12 * p + (b + q) = b + (c + 12 * p + q) by omega]
  exact ni_sb
theorem nr_of {x : Int32} {a H : Nat} (ha : a < 100) (hH : H ≤ 12) (h0 : ¬ (nI (a + 1) ≤ x ∧ x ≤ nI (a + H))) : ¬ (¬ x < nI (a + 1) ∧ ¬ nI (a + 1 + H) ≤ x) := fun w => h0 ⟨nt_lt.mp w.1, by
  have := nt_le.mp w.2
  rw [i_lt, nI_toInt (by omega)] at this
  rw [i_le, nI_toInt (by omega)]
  omega⟩
theorem q10_person {x1 x2 x3 : Int32} (a : tc h z DD N C) (hq : ∀ h', ax_same md_F h h' → Ret (some (.int (qv (z 0) DD x1 (-2) (s_per x2 x3)))) h') : mX10_person g [.ref 77, .int x1, .int x2, .int x3] h Ret := by
  refine eX10_person ⟨a.2.1.1, ?_⟩
  intro h1
  refine ⟨a.2.1.1, q_one (f := s_per x2 x3) (d := -2) a hq (fun D e => by unfold s_per; rw [if_neg (by rw [e]; decide)]) (fun h' r => ⟨_, rfl, fun q => absurd rfl q, fun _ => r⟩) (fun k p hk ok hp ep h' hm hr => ?_)⟩
  have hv := hr h' sm_rf
  have mb := hm.1.1
  have eH := mb.2.2.2.2.1
  subst ep
  unfold s_per at hv
  rw [if_pos (sp_in_nI (by have := ok.2.1; omega) hp)] at hv
  have H12 := ok.1.2
  have P6 := ok.2.1
  have H2 := ok.1.1
  refine ⟨_, rfl, fun _ => ⟨mb.1.1, c_min ⟨_, rfl, fun q => ⟨fun q0 => ⟨mb.1.1, c_min ⟨_, rfl, fun q1 => ?_, fun q1 => ?_⟩⟩, fun q0 => ⟨mb.1.1, _, (mo_pu mb.1).1, by rw [(mo_pu mb.1).2], ?_, ?_⟩⟩, fun q => ?_⟩⟩, fun q => absurd q (by decide)⟩
  · rw [eH, show (9 : Int32) + nI (dH (DD k)) = nI (9 + dH (DD k)) from ni_c 9 _] at q
    rw [eH, show (29 : Int32) + nI (dH (DD k)) = nI (29 + dH (DD k)) from ni_c 29 _] at q1
    rw [if_neg q0, show (10 : Int32) + nI (dH (DD k)) = nI (10 + dH (DD k)) from ni_c 10 _, show (30 : Int32) + nI (dH (DD k)) = nI (30 + dH (DD k)) from ni_c 30 _, if_neg (show ¬ (¬ x3 < 10 ∧ ¬ nI (10 + dH (DD k)) ≤ x3) from nr_of (a := 9) (by decide) H12 (of_decide_eq_false (b2i_0.mp q))), if_neg (show ¬ (¬ x3 < 30 ∧ ¬ nI (30 + dH (DD k)) ≤ x3) from nr_of (a := 29) (by decide) H12 (of_decide_eq_false (b2i_0.mp q1)))] at hv
    exact hv
  · rw [eH, show (9 : Int32) + nI (dH (DD k)) = nI (9 + dH (DD k)) from ni_c 9 _] at q
    rw [eH, show (29 : Int32) + nI (dH (DD k)) = nI (29 + dH (DD k)) from ni_c 29 _] at q1
    obtain ⟨n, n1, n2, rfl⟩ := i_rng (a := 30) (b := 29 + dH (DD k)) (by omega) (by omega) (of_decide_eq_true (b2i_n0.mp q1)).1 (of_decide_eq_true (b2i_n0.mp q1)).2
    obtain ⟨i, rfl⟩ := Nat.exists_eq_add_of_le n1
    refine ⟨mb.1.1, c_mof (i := 92 + 12 * p + i) mb.1 mb.2.1 mb.2.2.2.1 (by omega) ni_c12 ⟨_, rfl, ?_⟩⟩
    rw [show 164 * k + (92 + 12 * p + i) = 164 * k + 92 + 12 * p + i by omega, mb.2.2.1.2.2.2.2.2.2.2 p i hp (by omega)]
    rw [if_neg q0, show (10 : Int32) + nI (dH (DD k)) = nI (10 + dH (DD k)) from ni_c 10 _, show (30 : Int32) + nI (dH (DD k)) = nI (30 + dH (DD k)) from ni_c 30 _, if_neg (show ¬ (¬ nI (30 + i) < 10 ∧ ¬ nI (10 + dH (DD k)) ≤ nI (30 + i)) from nr_of (a := 9) (by decide) H12 (of_decide_eq_false (b2i_0.mp q))), if_pos ⟨nI_nlt (b := 30) (by omega) (by omega), nI_ge (a := 30 + i) (b := 30 + dH (DD k)) (by omega) (by omega)⟩, show nI (30 + i) - 30 = nI i from ni_sb, lo_nI hp (by omega) P6 H12] at hv
    exact hv
  · rw [(mo_pu mb.1).2]; exact nI_in (by omega) (by decide)
  · rw [if_pos q0] at hv
    rw [nI_clamp (by omega)] at hv ⊢
    rw [hm.1.2.1 p hp]; exact hv
  · rw [eH, show (9 : Int32) + nI (dH (DD k)) = nI (9 + dH (DD k)) from ni_c 9 _] at q
    obtain ⟨n, n1, n2, rfl⟩ := i_rng (a := 10) (b := 9 + dH (DD k)) (by omega) (by omega) (of_decide_eq_true (b2i_n0.mp q)).1 (of_decide_eq_true (b2i_n0.mp q)).2
    obtain ⟨i, rfl⟩ := Nat.exists_eq_add_of_le n1
    refine ⟨mb.1.1, c_mof (i := 20 + 12 * p + i) mb.1 mb.2.1 mb.2.2.2.1 (by omega) ni_c12 ⟨_, rfl, ?_⟩⟩
    rw [show 164 * k + (20 + 12 * p + i) = 164 * k + 20 + 12 * p + i by omega, mb.2.2.1.2.2.2.2.2.2.1 p i hp (by omega)]
    rw [if_neg (nI_ne0 (by omega) (by omega)), show (10 : Int32) + nI (dH (DD k)) = nI (10 + dH (DD k)) from ni_c 10 _, if_pos ⟨nI_nlt (b := 10) (by omega) (by omega), nI_ge (a := 10 + i) (b := 10 + dH (DD k)) (by omega) (by omega)⟩, show nI (10 + i) - 10 = nI i from ni_sb, de_nI hp (by omega) P6 H12] at hv
    exact hv
theorem g_person (a : IV h S Im tp) (b : 103 ≤ h.1 ∧ h.1 ≤ B) (x1 x2 x3 : Int32) : prI (mX9_person g) (mX10_person g) [.ref 0, .int x1, .int x2, .int x3] [.ref 77, .int x1, .int x2, .int x3] h (inv B) := pr_q _ a b (fun Ret k => q9_person (iv_tc a) k) (fun h1 Ret a1 k => q10_person (iv_tc a1) k)
end
end

section
section
variable {g : ax_G} {Ret : Option Value → ax_H → Prop} {h : ax_H} {z : Nat → Nat} {DD : Nat → rD} {N : Nat → Nat → Nat} {C : Nat → Nat → Nat → Nat → Int32} {S : sT} {Im : Nat → Option sT} {tp : Nat → Nat} {B : Nat}
/-! TWO -/
def s_e3 (D : rD) (k : Int32) : Int32 := if sp_mo D k = 0 then sp_ex D k + sp_ex D k else sp_ex D k
def s_two (x2 x3 x4 : Int32) (D : rD) : Int32 := if sp_in x2 (dP D) = true ∧ sp_in x3 (dH D) = true ∧ sp_in x4 (dH D) = true then sp_wd D x2 + (if x3 = x4 then s_e3 D (sp_de D x2 x3) else sp_ex D (sp_de D x2 x3) + sp_ex D (sp_de D x2 x4)) else -1000000
theorem mw_three {D : rD} {p q : Nat} (hd : rd_de D) (hp : p < dP D) (hq : q < dH D) (hH : dH D ≤ 12) (hP : dP D ≤ 6) (hmo : ∀ k, k < 6 → dmo D k = 0 ∨ dmo D k = 1 ∨ dmo D k = 2) : sp_mw D (dmo D) p q 3 = sp_wo D (sp_de D (nI p) (nI q)) + s_e3 D (sp_de D (nI p) (nI q)) := by
  rw [← mw_one hd hp hq hH hP (mo := dmo D), de_nI hp hq hP hH]
  unfold s_e3 sp_ex sp_xb sp_mo sp_mw sp_wo
  rcases hd p q hp hq with e | ⟨k, hk, e⟩
  · rw [e, if_pos rfl, if_pos rfl, if_pos (Or.inl (by decide)), if_neg (by decide), if_neg (by decide), if_neg (by decide)]
    rfl
  · have hn : ¬ (nI k < 0 ∨ 6 ≤ nI k) := by
      rintro (z | z)
      · exact nI_pos (by omega) z
      · exact nI_ge (a := k) (b := 6) hk (by decide) z
    rw [e, if_neg (nI_nm1 (by omega)), if_neg (nI_nm1 (by omega)), if_neg hn, if_neg hn, nI_clamp (by omega), if_pos rfl, if_neg (by decide)]
    unfold sp_ti
    rcases hmo k hk with z | z | z
    · rw [z, if_pos rfl, if_pos rfl, if_pos rfl, Int32.mul_one, show (3 : Int32) = 1 + (1 + 1) from rfl, Int32.mul_add, Int32.mul_add, Int32.mul_one]
    · rw [z, if_neg (by decide), if_pos rfl, if_neg (by decide), if_neg (by decide), if_neg (by decide), Int32.mul_one, Int32.add_zero]
    · rw [z, if_neg (by decide), if_neg (by decide), if_neg (by decide), if_neg (by decide), if_pos rfl, Int32.mul_one, Int32.mul_zero, Int32.add_right_neg]
theorem vb_two {D : rD} {p q r : Nat} (hd : rd_de D) (hp : p < dP D) (hq : q < dH D) (hr : r < dH D) (hH : dH D ≤ 12) (hP : dP D ≤ 6) (hmo : ∀ k, k < 6 → dmo D k = 0 ∨ dmo D k = 1 ∨ dmo D k = 2) : sp_vb D (dmo D) p (nI q) (nI r) = sp_wd D (nI p) + (if nI q = nI r then s_e3 D (sp_de D (nI p) (nI q)) else sp_ex D (sp_de D (nI p) (nI q)) + sp_ex D (sp_de D (nI p) (nI r))) := by
  have nn : ∀ {i j : Nat}, i < 12 → j < 12 → ¬ i = j → ¬ nI i = nI j := fun a b e z => e ((nI_eq (by omega) (by omega)).mp z)
  unfold sp_vb sp_wd
  by_cases e : q = r
  · subst e
    rw [if_pos rfl]
    have := sumN_one (f := fun i => sp_wo D (sp_de D (nI p) (nI i))) (e := fun i => s_e3 D (sp_de D (nI p) (nI i))) (q := q) (n := dH D)
    rw [if_pos hq] at this
    rw [← this]
    refine sumN_congr (fun i hi => ?_)
    unfold sp_lv
    by_cases e : i = q
    · subst e
      rw [if_pos rfl, if_pos rfl, show ((1 : Int32) + 1 + 1) = 3 from rfl]
      exact mw_three hd hp hq hH hP hmo
    · rw [if_neg (nn (by omega) (by omega) e), if_neg e, show ((1 : Int32) + 0 + 0) = 1 from rfl, Int32.add_zero]
      exact mw_one hd hp hi hH hP
  · rw [if_neg (nn (by omega) (by omega) e), ← Int32.add_assoc]
    have t1 := sumN_one (f := fun i => sp_wo D (sp_de D (nI p) (nI i))) (e := fun i => sp_ex D (sp_de D (nI p) (nI i))) (q := q) (n := dH D)
    rw [if_pos hq] at t1
    have t2 := sumN_one (f := fun i => sp_wo D (sp_de D (nI p) (nI i)) + (if i = q then sp_ex D (sp_de D (nI p) (nI i)) else 0)) (e := fun i => sp_ex D (sp_de D (nI p) (nI i))) (q := r) (n := dH D)
    rw [if_pos hr, t1] at t2
    rw [← t2]
    refine sumN_congr (fun i hi => ?_)
    unfold sp_lv
    by_cases e1 : i = q
    · subst e1
      rw [if_pos rfl, if_pos rfl, if_neg (nn (by omega) (by omega) e), if_neg e, show ((1 : Int32) + 1 + 0) = 2 from rfl, Int32.add_zero]
      exact mw_two hd hp hq hH hP hmo
    · rw [if_neg (nn (by omega) (by omega) e1), if_neg e1]
      by_cases e2 : i = r
      · subst e2
        rw [if_pos rfl, if_pos rfl, show ((1 : Int32) + 0 + 1) = 2 from rfl, Int32.add_zero]
        exact mw_two hd hp hr hH hP hmo
      · rw [if_neg (nn (by omega) (by omega) e2), if_neg e2, show ((1 : Int32) + 0 + 0) = 1 from rfl, Int32.add_zero, Int32.add_zero]
        exact mw_one hd hp hi hH hP
theorem q9_two {x1 x2 x3 x4 : Int32} (a : tc h z DD N C) (hq : ∀ h', ax_same cl_F h h' → Ret (some (.int (qv (z 0) DD x1 (-1000000) (s_two x2 x3 x4)))) h') : mX9_two g [.ref 0, .int x1, .int x2, .int x3, .int x4] h Ret := by
  have z2 := a.2.2.2.2.1 0 (by decide)
  have hv := hq h sm_rf
  refine eX9_two ⟨a.1.1, _, a.1.2.1.1, a.2.2.1.1.1, c_republicAt a.2.2.1 (fun q => Or.inr ⟨rfl, ?_⟩) (fun k hk ex => ?_)⟩
  · rwa [qv_no q] at hv
  · have rc := a.2.2.1.2.2.1 k hk
    rw [qv_yes z2 hk ex] at hv
    unfold s_two at hv
    refine Or.inl ⟨_, rfl, rc.1.1, c_hasPerson rc ⟨_, rfl, fun q => ?_, fun q => ⟨rc.1.1, c_hasHour rc ⟨_, rfl, fun q1 => ?_, fun q1 => ⟨rc.1.1, c_hasHour rc ⟨_, rfl, fun q2 => ⟨rc.1.1, c_deedAt rc ⟨_, rfl, rc.1.1, c_extraOf rc ⟨_, rfl, fun e => ⟨rc.1.1, c_modeOf rc ⟨_, rfl, fun m => ⟨rc.1.1, c_worthOfDeeds rc ⟨_, rfl, ?_⟩⟩, fun m => ⟨rc.1.1, c_worthOfDeeds rc ⟨_, rfl, ?_⟩⟩⟩⟩, fun e => ⟨rc.1.1, c_deedAt rc ⟨_, rfl, rc.1.1, c_extraOf rc ⟨_, rfl, rc.1.1, c_worthOfDeeds rc ⟨_, rfl, ?_⟩⟩⟩⟩⟩⟩⟩, fun q2 => ?_⟩⟩⟩⟩⟩⟩
    · rw [if_neg (fun w => by rw [b2i_0.mp q] at w; exact absurd w.1 (by decide))] at hv; exact hv
    · rw [if_neg (fun w => by rw [b2i_0.mp q1] at w; exact absurd w.2.1 (by decide))] at hv; exact hv
    · rw [if_pos ⟨b2i_n0.mp q, b2i_n0.mp q1, b2i_n0.mp q2⟩, if_pos e] at hv; unfold s_e3 at hv; rw [if_neg m] at hv; exact hv
    · rw [if_pos ⟨b2i_n0.mp q, b2i_n0.mp q1, b2i_n0.mp q2⟩, if_pos e] at hv; unfold s_e3 at hv; rw [if_pos m] at hv; exact hv
    · rw [if_pos ⟨b2i_n0.mp q, b2i_n0.mp q1, b2i_n0.mp q2⟩, if_neg e] at hv; exact hv
    · rw [if_neg (fun w => by rw [b2i_0.mp q2] at w; exact absurd w.2.2 (by decide))] at hv; exact hv
theorem q10_two {x1 x2 x3 x4 : Int32} (a : tc h z DD N C) (hq : ∀ h', ax_same md_F h h' → Ret (some (.int (qv (z 0) DD x1 (-1000000) (s_two x2 x3 x4)))) h') : mX10_two g [.ref 77, .int x1, .int x2, .int x3, .int x4] h Ret := by
  refine eX10_two ⟨a.2.1.1, ?_⟩
  intro h1
  refine ⟨a.2.1.1, q_one (f := s_two x2 x3 x4) (d := -1000000) a hq (fun D e => by unfold s_two; rw [if_neg (fun w => by rw [e] at w; exact absurd w.1 (by decide))]) (fun h' r => ⟨_, rfl, fun _ => r, fun q => absurd rfl q⟩) (fun k p hk ok hp ep h' hm hr => ?_)⟩
  have hv := hr h' sm_rf
  have mb := hm.1.1
  subst ep
  have H12 := ok.1.2
  have P6 := ok.2.1
  unfold s_two at hv
  refine ⟨_, rfl, fun q => absurd q (by decide), fun _ => ⟨mb.1.1, c_misHour mb ⟨_, rfl, fun q => ?_, fun q => ⟨mb.1.1, c_misHour mb ⟨_, rfl, fun q1 => ?_, fun q1 => ⟨mb.1.1, ?_⟩⟩⟩⟩⟩⟩
  · rw [if_neg (fun w => by rw [b2i_0.mp q] at w; exact absurd w.2.1 (by decide))] at hv; exact hv
  · rw [if_neg (fun w => by rw [b2i_0.mp q1] at w; exact absurd w.2.2 (by decide))] at hv; exact hv
  · rw [if_pos ⟨sp_in_nI (by omega) hp, b2i_n0.mp q, b2i_n0.mp q1⟩] at hv
    obtain ⟨i, hi, rfl⟩ := sp_in_ix (by omega) (b2i_n0.mp q)
    obtain ⟨j, hj, rfl⟩ := sp_in_ix (by omega) (b2i_n0.mp q1)
    rw [← vb_two (rd_de_of ok) hp hi hj H12 P6 ok.2.2.2.1] at hv
    exact c_mvalueBy mb (rd_de_of ok) hp (fun q hq => hm.1.2.2.1 p q hp hq) ⟨_, rfl, hv⟩
theorem g_two (a : IV h S Im tp) (b : 103 ≤ h.1 ∧ h.1 ≤ B) (x1 x2 x3 x4 : Int32) : prI (mX9_two g) (mX10_two g) [.ref 0, .int x1, .int x2, .int x3, .int x4] [.ref 77, .int x1, .int x2, .int x3, .int x4] h (inv B) := pr_q _ a b (fun Ret k => q9_two (iv_tc a) k) (fun h1 Ret a1 k => q10_two (iv_tc a1) k)
end
end

section
section
variable {g : ax_G} {Ret : Option Value → ax_H → Prop} {h : ax_H} {z : Nat → Nat} {DD : Nat → rD} {N : Nat → Nat → Nat} {C : Nat → Nat → Nat → Nat → Int32} {S : sT} {Im : Nat → Option sT} {tp : Nat → Nat} {B : Nat}
/-! PROMISE -/
def s_idl (D : rD) (x : Int32) (n : Nat) : Int64 := sumL (fun q => if sp_de D x (nI q) = -1 then (sp_w D (rul D) q).toInt64 else 0) n
def s_lvd (D : rD) (k : Int32) : Int32 := sp_wo D k + sp_ex D k
def s_prm (x2 x3 u : Int32) (D : rD) : Int32 := if sp_in x2 (dP D) = true ∧ sp_in x3 6 = true then (sp_sd (s_idl D x2 (dH D) * (s_lvd D x3).toInt64) (sp_t D (rul D)).toInt64 u).toInt32 else -1000000
theorem wo_bd {D : rD} (ok : rd_ok D) (k : Int32) : -99 ≤ (sp_wo D k).toInt ∧ (sp_wo D k).toInt ≤ 99 := by
  unfold sp_wo
  split
  · decide
  · rename_i q
    obtain ⟨j, hj, rfl⟩ := (ni_ix (n := 6) (by decide)).mp ⟨fun z => q (Or.inl z), fun z => q (Or.inr z)⟩
    rw [nI_clamp (by omega)]; exact ok.2.2.1 j hj
theorem ex_bd {D : rD} (ok : rd_ok D) (k m : Int32) : -99 ≤ (sp_xb D k m).toInt ∧ (sp_xb D k m).toInt ≤ 99 := by
  have w := wo_bd ok k
  unfold sp_xb
  split
  · exact w
  · split
    · rw [i32_neg (by omega)]; omega
    · decide
theorem lvd_bd {D : rD} (ok : rd_ok D) (k : Int32) : -198 ≤ (s_lvd D k).toInt ∧ (s_lvd D k).toInt ≤ 198 := by
  have w := wo_bd ok k
  have e := ex_bd ok k (sp_mo D k)
  unfold s_lvd sp_ex
  rw [i32_add (by omega) (by omega)]; omega
theorem idl_bd {D : rD} (ok : rd_ok D) (x : Int32) : 0 ≤ (s_idl D x (dH D)).toInt ∧ (s_idl D x (dH D)).toInt ≤ 108 := by
  have H := ok.1.2
  have := sumL_bd (f := fun q => if sp_de D x (nI q) = -1 then (sp_w D (rul D) q).toInt64 else 0) (a := 0) (b := 9) (n := dH D) (fun i _ => by
    show 0 ≤ (if sp_de D x (nI i) = -1 then (sp_w D (rul D) i).toInt64 else 0).toInt ∧ (if sp_de D x (nI i) = -1 then (sp_w D (rul D) i).toInt64 else 0).toInt ≤ 9
    split
    · rw [i_64]; exact sp_w_bd ok _ _
    · decide) (by decide) (by decide) (by omega) (by omega)
  unfold s_idl
  omega
theorem prm_big {D : rD} (ok : rd_ok D) (x k : Int32) : -9223372036854775808 < (s_idl D x (dH D) * (s_lvd D k).toInt64).toInt := by
  have a := idl_bd ok x
  have b := lvd_bd ok k
  have h1 : -21384 ≤ (s_idl D x (dH D)).toInt * (s_lvd D k).toInt := by
    have : (s_idl D x (dH D)).toInt * (-198) ≤ (s_idl D x (dH D)).toInt * (s_lvd D k).toInt := Int.mul_le_mul_of_nonneg_left b.1 a.1
    omega
  have h2 : (s_idl D x (dH D)).toInt * (s_lvd D k).toInt ≤ 21384 := by
    have : (s_idl D x (dH D)).toInt * (s_lvd D k).toInt ≤ (s_idl D x (dH D)).toInt * 198 := Int.mul_le_mul_of_nonneg_left b.2 a.1
    omega
  rw [i64_mul (by rw [i_64]; omega) (by rw [i_64]; omega), i_64]; omega
theorem in6 {x : Int32} : sp_in x 6 = true ↔ ¬ x < 0 ∧ x < 6 := by
  unfold sp_in
  rw [decide_eq_true_iff]
  exact and_congr nt_lt.symm Iff.rfl
theorem q9_promise {x1 x2 x3 u : Int32} (a : tc h z DD N C) (hq : ∀ h', ax_same cl_F h h' → Ret (some (.int (qv (z 0) DD x1 (-1000000) (s_prm x2 x3 u)))) h') : mX9_promise g [.ref 0, .int x1, .int x2, .int x3, .int u] h Ret := by
  have z2 := a.2.2.2.2.1 0 (by decide)
  refine uX9_promise (fun A hA => vX9_promise_0 hA ⟨a.1.1, q_begun a (fun q => Or.inr ⟨rfl, ?_⟩) (fun k hk ex ok h' hs xs hc => Or.inl ⟨_, rfl, hc.1.1.1, c_hasPerson hc.1 ⟨_, rfl, fun q1 => ?_, fun q1 => ⟨fun q2 => ?_, fun q2 => ⟨fun q3 => ?_, fun q3 => ?_⟩⟩⟩⟩)⟩)
  · have := hq h sm_rf; rwa [qv_no q] at this
  · have hv := hq h' hs
    rw [qv_yes z2 hk ex] at hv; unfold s_prm at hv
    rw [if_neg (fun w => by rw [b2i_0.mp q1] at w; exact absurd w.1 (by decide))] at hv; exact hv
  · have hv := hq h' hs
    rw [qv_yes z2 hk ex] at hv; unfold s_prm at hv
    rw [if_neg (fun w => (in6.mp w.2).1 q2)] at hv; exact hv
  · have hv := hq h' hs
    rw [qv_yes z2 hk ex] at hv; unfold s_prm at hv
    rw [if_pos ⟨b2i_n0.mp q1, in6.mpr ⟨q2, q3⟩⟩] at hv
    have H12 := ok.1.2
    have e5 := hc.1.2.2.1.1
    have key : ∀ n i : Nat, i + n = dH (DD k) → ∀ o9 : Option Value, A (40, [some (.ref 0), some (.int x1), some (.int x2), some (.int x3), some (.int u), some (.ref (6 + 14 * k)), some (.long (s_idl (DD k) x2 i)), none, some (.int (nI i)), o9], [], h', 0, 0) := by
      intro n
      induction n with
      | zero =>
        intro i hi o9
        refine vX9_promise_40 hA ⟨hc.1.1.1, fun _ => ⟨hc.1.1.1, c_worthOf hc.1 ⟨_, rfl, hc.1.1.1, c_extraOf hc.1 ⟨_, rfl, xs.1, _, xs.2.1.2.2.2.2.1, hc.2.2.1.1, ?_⟩⟩⟩, fun q => ?_⟩
        · rw [hc.2.2.2.2.2.1, show i = dH (DD k) by omega]
          exact c_side (prm_big ok x2 x3) (t_pos ok) ⟨_, rfl, hv⟩
        · rw [e5] at q; exact absurd (nI_le (by omega) (by omega)) q
      | succ n ih =>
        intro i hi o9
        refine vX9_promise_40 hA ⟨hc.1.1.1, fun q => ?_, fun _ => ⟨hc.1.1.1, c_deedAt hc.1 ⟨_, rfl, fun q => ?_, fun q => ⟨xs.1, _, xs.2.1.2.2.2.2.1, hc.2.2.1.1, _, hc.2.2.1.2.1, by rw [hc.2.2.1.2.2], by rw [hc.2.2.1.2.2]; exact vp_in_nI (by omega) (by decide), ?_⟩⟩⟩⟩
        · rw [e5] at q; exact absurd q (nI_ge (by omega) (by omega))
        · have := ih (i + 1) (by omega) o9
          unfold s_idl at this ⊢
          rw [show sumL (fun q => if sp_de (DD k) x2 (nI q) = -1 then (sp_w (DD k) (rul (DD k)) q).toInt64 else 0) (i + 1) = sumL (fun q => if sp_de (DD k) x2 (nI q) = -1 then (sp_w (DD k) (rul (DD k)) q).toInt64 else 0) i + (if sp_de (DD k) x2 (nI i) = -1 then (sp_w (DD k) (rul (DD k)) i).toInt64 else 0) from rfl, if_neg q] at this
          rw [nI_succ] at this
          exact this
        · have := ih (i + 1) (by omega) o9
          unfold s_idl at this ⊢
          rw [show sumL (fun q => if sp_de (DD k) x2 (nI q) = -1 then (sp_w (DD k) (rul (DD k)) q).toInt64 else 0) (i + 1) = sumL (fun q => if sp_de (DD k) x2 (nI q) = -1 then (sp_w (DD k) (rul (DD k)) q).toInt64 else 0) i + (if sp_de (DD k) x2 (nI i) = -1 then (sp_w (DD k) (rul (DD k)) i).toInt64 else 0) from rfl, if_pos q] at this
          rw [nI_succ] at this
          rw [nI_clamp (by omega), hc.2.2.2.2.2.2 i (by omega)]
          exact this
    exact key (dH (DD k)) 0 (by omega) none
  · have hv := hq h' hs
    rw [qv_yes z2 hk ex] at hv; unfold s_prm at hv
    rw [if_neg (fun w => q3 (in6.mp w.2).2)] at hv; exact hv
theorem lvd_ti {D : rD} (ok : rd_ok D) {k : Nat} (hk : k < 6) : (s_lvd D (nI k)).toInt64 = (dwo D k).toInt64 * (sp_ti (dmo D k) 2).toInt64 := by
  have w := ok.2.2.1 k hk
  refine l_inj ?_
  unfold s_lvd sp_ex sp_xb sp_ti
  rw [wo_nI hk, mo_nI hk]
  rcases ok.2.2.2.1 k hk with e | e | e
  · rw [e, if_pos rfl, if_pos rfl, i64_mul (by rw [i_64, i_64, show (2 : Int32).toInt = 2 from rfl]; omega) (by rw [i_64, i_64, show (2 : Int32).toInt = 2 from rfl]; omega), i_64, i_64, i_64, i32_add (by omega) (by omega), show (2 : Int32).toInt = 2 from rfl]; omega
  · rw [e, if_neg (by decide), if_neg (by decide), if_neg (by decide), if_pos rfl, Int32.add_zero, i64_mul (by rw [i_64, i_64, show (1 : Int32).toInt = 1 from rfl]; omega) (by rw [i_64, i_64, show (1 : Int32).toInt = 1 from rfl]; omega), i_64, i_64, show (1 : Int32).toInt = 1 from rfl]; omega
  · rw [e, if_neg (by decide), if_pos rfl, if_neg (by decide), if_neg (by decide), Int32.add_right_neg]
    exact (congrArg Int64.toInt (Int64.mul_zero (a := (dwo D k).toInt64))).symm
theorem sumL_mul {f : Nat → Int64} {c : Int64} : ∀ n, sumL f n * c = sumL (fun q => f q * c) n
  | 0 => Int64.zero_mul
  | n + 1 => by show (sumL f n + f n) * c = sumL (fun q => f q * c) n + f n * c; rw [Int64.add_mul, sumL_mul n]
theorem q10_promise {x1 x2 x3 u : Int32} (a : tc h z DD N C) (hq : ∀ h', ax_same md_F h h' → Ret (some (.int (qv (z 0) DD x1 (-1000000) (s_prm x2 x3 u)))) h') : mX10_promise g [.ref 77, .int x1, .int x2, .int x3, .int u] h Ret := by
  refine uX10_promise (fun A hA => vX10_promise_0 hA ⟨a.2.1.1, ?_⟩)
  intro h1
  refine ⟨a.2.1.1, q_one (f := s_prm x2 x3 u) (d := -1000000) a hq (fun D e => by unfold s_prm; rw [if_neg (fun w => by rw [e] at w; exact absurd w.1 (by decide))]) (fun h' r => ⟨_, rfl, fun _ => r, fun q => absurd rfl q⟩) (fun k p hk ok hp ep h' hm hr => ⟨_, rfl, fun q => absurd q (by decide), fun _ => c_min ⟨_, rfl, fun q => ?_, fun q => ?_⟩⟩)⟩
  · have hv := hr h' sm_rf
    have mb := hm.1.1
    have H12 := ok.1.2
    have P6 := ok.2.1
    subst ep
    obtain ⟨κ, hκ0, hκ, rfl⟩ := i_rng (a := 0) (b := 5) (by decide) (by decide) (of_decide_eq_true (b2i_n0.mp q)).1 (of_decide_eq_true (b2i_n0.mp q)).2
    unfold s_prm at hv
    rw [if_pos ⟨sp_in_nI (by omega) hp, sp_in_nI (by decide) (show κ < 6 by omega)⟩] at hv
    have eq : s_idl (DD k) (nI p) (dH (DD k)) * (s_lvd (DD k) (nI κ)).toInt64 = sumL (fun q => if dde (DD k) p q = -1 then (sp_w (DD k) (rul (DD k)) q).toInt64 * (dwo (DD k) κ).toInt64 * (sp_ti (dmo (DD k) κ) 2).toInt64 else 0) (dH (DD k)) := by
      unfold s_idl
      rw [sumL_mul, lvd_ti ok (by omega)]
      refine sumL_congr (fun i hi => ?_)
      rw [de_nI hp hi P6 H12]
      split
      · rw [Int64.mul_assoc]
      · exact Int64.zero_mul
    have big := prm_big ok (nI p) (nI κ)
    rw [eq] at hv big
    obtain ⟨e1, e2⟩ := mo_we mb.1
    obtain ⟨f1, f2⟩ := mo_de mb.1
    have key : ∀ n i : Nat, i + n = dH (DD k) → A (33, [some (.ref 77), some (.int x1), some (.int (nI p)), some (.int (nI κ)), some (.int u), some (.long (sumL (fun q => if dde (DD k) p q = -1 then (sp_w (DD k) (rul (DD k)) q).toInt64 * (dwo (DD k) κ).toInt64 * (sp_ti (dmo (DD k) κ) 2).toInt64 else 0) i)), none, some (.int (nI i))], [], h', 0, 0) := by
      intro n
      induction n with
      | zero =>
        intro i hi
        refine vX10_promise_33 hA ⟨mb.1.1, fun _ => ⟨mb.1.1, ?_⟩, fun q => ?_⟩
        · rw [hm.2.2.1, show i = dH (DD k) by omega]
          exact c_part big (t_pos ok) ⟨_, rfl, hv⟩
        · rw [mb.2.2.2.2.1] at q; exact absurd (nI_le (by omega) (by omega)) q
      | succ n ih =>
        intro i hi
        have ei : (12 : Int32) * nI p + nI i = nI (12 * p + i) := ni_21
        refine vX10_promise_33 hA ⟨mb.1.1, fun q => ?_, fun _ => ⟨mb.1.1, _, f1, by rw [f2], by rw [ei, f2]; exact vp_in_nI (by omega) (by decide), fun q => ⟨mb.1.1, _, e1, by rw [e2], by rw [e2]; exact vp_in_nI (by omega) (by decide), mb.1.1, c_mof (i := 8 + κ) mb.1 mb.2.1 mb.2.2.2.1 (by omega) (ni_c 8 κ) ⟨_, rfl, mb.1.1, c_mof (i := 14 + κ) mb.1 mb.2.1 mb.2.2.2.1 (by omega) (ni_c 14 κ) ⟨_, rfl, c_mtimes ⟨_, rfl, ?_⟩⟩⟩⟩, fun q => ?_⟩⟩
        · rw [mb.2.2.2.2.1] at q; exact absurd q (nI_ge (by omega) (by omega))
        · intro z22
          have := ih (i + 1) (by omega)
          rw [ei, nI_clamp (by omega), hm.1.2.2.1 p i hp (by omega)] at q
          rw [show sumL (fun q => if dde (DD k) p q = -1 then (sp_w (DD k) (rul (DD k)) q).toInt64 * (dwo (DD k) κ).toInt64 * (sp_ti (dmo (DD k) κ) 2).toInt64 else 0) (i + 1) = sumL (fun q => if dde (DD k) p q = -1 then (sp_w (DD k) (rul (DD k)) q).toInt64 * (dwo (DD k) κ).toInt64 * (sp_ti (dmo (DD k) κ) 2).toInt64 else 0) i + (if dde (DD k) p i = -1 then (sp_w (DD k) (rul (DD k)) i).toInt64 * (dwo (DD k) κ).toInt64 * (sp_ti (dmo (DD k) κ) 2).toInt64 else 0) from rfl, if_pos q, nI_succ] at this
          show A (33, [some (.ref 77), some (.int x1), some (.int (nI p)), some (.int (nI κ)), some (.int u), some (.long (_ + (ax_i h' 93 (nI i).toNatClampNeg).toInt64 * (ax_i h' 83 (164 * k + (8 + κ))).toInt64 * (sp_ti (ax_i h' 83 (164 * k + (14 + κ))) 2).toInt64)), none, some (.int (nI i + 1))], [], h', 0, 0)
          rw [nI_clamp (by omega), hm.2.1 i (by omega), ← Nat.add_assoc, ← Nat.add_assoc, mb.2.2.1.2.2.2.2.1 κ (by omega), mb.2.2.1.2.2.2.2.2.1 κ (by omega)]
          exact this
        · have := ih (i + 1) (by omega)
          rw [ei, nI_clamp (by omega), hm.1.2.2.1 p i hp (by omega)] at q
          rw [show sumL (fun q => if dde (DD k) p q = -1 then (sp_w (DD k) (rul (DD k)) q).toInt64 * (dwo (DD k) κ).toInt64 * (sp_ti (dmo (DD k) κ) 2).toInt64 else 0) (i + 1) = sumL (fun q => if dde (DD k) p q = -1 then (sp_w (DD k) (rul (DD k)) q).toInt64 * (dwo (DD k) κ).toInt64 * (sp_ti (dmo (DD k) κ) 2).toInt64 else 0) i + (if dde (DD k) p i = -1 then (sp_w (DD k) (rul (DD k)) i).toInt64 * (dwo (DD k) κ).toInt64 * (sp_ti (dmo (DD k) κ) 2).toInt64 else 0) from rfl, if_neg q, nI_succ] at this
          exact this
    exact key (dH (DD k)) 0 (by omega)
  · have hv := hr h' sm_rf
    unfold s_prm at hv
    rw [if_neg (fun w => of_decide_eq_false (b2i_0.mp q) ⟨nt_lt.mp (in6.mp w.2).1, by have := (in6.mp w.2).2; rw [i_lt] at this; rw [i_le]; change x3.toInt < 6 at this; change x3.toInt ≤ 5; omega⟩)] at hv
    exact hv
theorem g_promise (a : IV h S Im tp) (b : 103 ≤ h.1 ∧ h.1 ≤ B) (x1 x2 x3 x4 : Int32) : prI (mX9_promise g) (mX10_promise g) [.ref 0, .int x1, .int x2, .int x3, .int x4] [.ref 77, .int x1, .int x2, .int x3, .int x4] h (inv B) := pr_q _ a b (fun Ret k => q9_promise (iv_tc a) k) (fun h1 Ret a1 k => q10_promise (iv_tc a1) k)
end
end

section
section
variable {g : ax_G} {Ret : Option Value → ax_H → Prop} {h : ax_H} {z : Nat → Nat} {DD : Nat → rD} {N : Nat → Nat → Nat} {C : Nat → Nat → Nat → Nat → Int32} {S : sT} {Im : Nat → Option sT} {tp : Nat → Nat} {B : Nat}
/-! FEUD: both answer -/
theorem t9_feud {x1 x2 : Int32} (a : tc h z DD N C) (hq : ∀ (v : Int32) h', ax_same cl_F h h' → Ret (some (.int v)) h') : mX9_feud g [.ref 0, .int x1, .int x2] h Ret := by
  refine uX9_feud (fun A hA => vX9_feud_0 hA ⟨a.1.1, q_begun a (fun q => Or.inr ⟨rfl, hq _ h sm_rf⟩) (fun k hk ex ok h' hs xs hc => Or.inl ⟨_, rfl, fun _ => hq _ h' hs, fun _ => ⟨fun _ => ⟨xs.1, _, xs.2.1.2.2.2.1, hc.2.1.1.1, c_apart hc.2.1 ⟨_, rfl, ?_⟩⟩, fun _ => hq _ h' hs⟩⟩)⟩)
  have H12 := ok.1.2
  have e5 := hc.1.2.2.1.1
  have key : ∀ n i : Nat, i + n = dH (DD k) → ∀ (x4 x5 x6 : Int32) (o8 o9 : Option Value), A (41, [some (.ref 0), some (.int x1), some (.int x2), some (.ref (6 + 14 * k)), some (.int x4), some (.int x5), some (.int x6), some (.int (nI i)), o8, o9], [], h', 0, 0) := by
    intro n
    induction n with
    | zero =>
      intro i hi x4 x5 x6 o8 o9
      refine vX9_feud_41 hA ⟨hc.1.1.1, fun _ => ⟨fun _ => ⟨fun _ => hq _ h' hs, fun _ => hq _ h' hs⟩, fun _ => hq _ h' hs⟩, fun q => ?_⟩
      rw [e5] at q; exact absurd (nI_le (by omega) (by omega)) q
    | succ n ih =>
      intro i hi x4 x5 x6 o8 o9
      refine vX9_feud_41 hA ⟨hc.1.1.1, fun q => ?_, fun _ => ?_⟩
      · rw [e5] at q; exact absurd q (nI_ge (by omega) (by omega))
      · rw [← nI_succ]
        have inn : ∀ m j : Nat, j + m = dH (DD k) → ∀ (x4 x5 x6 : Int32) (o9 : Option Value), A (56, [some (.ref 0), some (.int x1), some (.int x2), some (.ref (6 + 14 * k)), some (.int x4), some (.int x5), some (.int x6), some (.int (nI i)), some (.int (nI j)), o9], [], h', 0, 0) := by
          intro m
          induction m with
          | zero =>
            intro j hj x4 x5 x6 o9
            refine vX9_feud_56 hA ⟨hc.1.1.1, fun _ => ?_, fun q => ?_⟩
            · rw [← nI_succ]; exact ih (i + 1) (by omega) _ _ _ _ _
            · rw [e5] at q; exact absurd (nI_le (by omega) (by omega)) q
          | succ m ihm =>
            intro j hj x4 x5 x6 o9
            refine vX9_feud_56 hA ⟨hc.1.1.1, fun q => ?_, fun _ => ⟨xs.1, _, xs.2.1.2.2.2.1, hc.2.1.1.1, c_apart hc.2.1 ⟨_, rfl, fun _ => ?_, fun _ => ?_⟩⟩⟩
            · rw [e5] at q; exact absurd q (nI_ge (by omega) (by omega))
            · rw [← nI_succ]; exact ihm (j + 1) (by omega) _ _ _ _
            · rw [← nI_succ]; exact ihm (j + 1) (by omega) _ _ _ _
        exact inn n (i + 1) (by omega) _ _ _ _
  exact key (dH (DD k)) 0 (by omega) _ _ _ _ _
theorem c_mapart {m ρ q r : Nat} {D : rD} {mo pu : Nat → Int32} {vl : Nat → Nat → Int32} (a : mc_at h m ρ D mo pu vl) (hq0 : q < dH D) (hr0 : r < dH D) (hq : Ret (some (.int (sp_ap (dP D) (dH D) vl (nI q) (nI r)))) h) : mX10_apart g [.ref m, .int (nI q), .int (nI r)] h Ret := by
  obtain ⟨hH, hP⟩ := a.1.2.2.1.1
  have s0 := a.1.1.1
  have e27 := a.1.2.2.2.2.2.1
  obtain ⟨f1, f2⟩ := mo_va a.1.1
  refine uX10_apart (fun A hA => vX10_apart_0 hA ?_)
  have key : ∀ n i : Nat, i + n = dP D → ∀ o5 : Option Value, A (5, [some (.ref m), some (.int (nI q)), some (.int (nI r)), some (.int (sumN (fun p => iabs (sp_br (dP D) (dH D) vl (nI p) (nI q) - sp_br (dP D) (dH D) vl (nI p) (nI r))) i)), some (.int (nI i)), o5], [], h, 0, 0) := by
    intro n
    induction n with
    | zero =>
      intro i hi o5
      refine vX10_apart_5 hA ⟨s0, fun _ => ?_, fun q => ?_⟩
      · rw [show i = dP D by omega]; exact hq
      · rw [e27] at q; exact absurd (nI_le (by omega) (by omega)) q
    | succ n ih =>
      intro i hi o5
      have eq : (12 : Int32) * nI i + nI q = nI (12 * i + q) := ni_21
      have er : (12 : Int32) * nI i + nI r = nI (12 * i + r) := ni_21
      refine vX10_apart_5 hA ⟨s0, fun q => ?_, fun _ => ⟨s0, _, f1, by rw [f2], by rw [eq, f2]; exact vp_in_nI (by omega) (by decide), s0, _, f1, by rw [f2], by rw [er, f2]; exact vp_in_nI (by omega) (by decide), ?_⟩⟩
      · rw [e27] at q; exact absurd q (nI_ge (by omega) (by omega))
      · intro z3
        have ez : z3 = sp_br (dP D) (dH D) vl (nI i) (nI q) - sp_br (dP D) (dH D) vl (nI i) (nI r) := by
          show ax_i h (m + 15) ((12 : Int32) * nI i + nI q).toNatClampNeg - ax_i h (m + 15) ((12 : Int32) * nI i + nI r).toNatClampNeg = _
          rw [eq, er, nI_clamp (by omega), nI_clamp (by omega), a.2.2.2 i q (by omega) hq0, a.2.2.2 i r (by omega) hr0, sp_br_in (by omega) hq0 hP hH, sp_br_in (by omega) hr0 hP hH]
        have st := ih (i + 1) (by omega) (some (.int z3))
        rw [show sumN (fun p => iabs (sp_br (dP D) (dH D) vl (nI p) (nI q) - sp_br (dP D) (dH D) vl (nI p) (nI r))) (i + 1) = sumN (fun p => iabs (sp_br (dP D) (dH D) vl (nI p) (nI q) - sp_br (dP D) (dH D) vl (nI p) (nI r))) i + iabs (sp_br (dP D) (dH D) vl (nI i) (nI q) - sp_br (dP D) (dH D) vl (nI i) (nI r)) from rfl, ← ez] at st
        unfold iabs at st
        refine ⟨fun q => ?_, fun q => ?_⟩
        · rw [if_pos q, nI_succ] at st; exact st
        · rw [if_neg q, Int32.zero_sub, nI_succ] at st; exact st
  exact key (dP D) 0 (by omega) _
theorem t10_feud {x1 x2 : Int32} (a : tc h z DD N C) (hq : ∀ (v : Int32) h', ax_same md_F h h' → Ret (some (.int v)) h') : mX10_feud g [.ref 77, .int x1, .int x2] h Ret := by
  obtain ⟨a1, T1, hs1⟩ := q_code (v := 0) a.2.1 a.2.2.2.1
  refine uX10_feud (fun A hA => vX10_feud_0 hA ⟨a.2.1.1, ?_⟩)
  intro h1
  refine c_min ⟨_, rfl, fun _ => hq _ _ hs1, fun _ => ⟨a1.1, q_hand a1 T1 a.2.2.2.2 (fun q => ⟨_, rfl, fun q => absurd rfl q, fun _ => hq _ _ hs1⟩) (fun k hk ex ok h' hs hm => ⟨_, rfl, fun _ => ?_, fun q => absurd q (by decide)⟩)⟩⟩
  have fin : ∀ v : Int32, Ret (some (.int v)) h' := fun v => hq v h' (sm_tr hs1 hs)
  have mb := hm.1.1
  have s0 := mb.1.1
  have H12 := ok.1.2
  have e26 := mb.2.2.2.2.1
  have key : ∀ n i : Nat, i + n = dH (DD k) → ∀ (x3 x4 : Int32) (o6 : Option Value), A (32, [some (.ref 77), some (.int x1), some (.int x2), some (.int x3), some (.int x4), some (.int (nI i)), o6], [], h', 0, 0) := by
    intro n
    induction n with
    | zero =>
      intro i hi x3 x4 o6
      refine vX10_feud_32 hA ⟨s0, fun _ => ⟨fun _ => ⟨fun _ => fin _, fun _ => ⟨by decide, fin _⟩⟩, fun _ => ⟨by decide, fin _⟩⟩, fun q => ?_⟩
      rw [e26] at q; exact absurd (nI_le (by omega) (by omega)) q
    | succ n ih =>
      intro i hi x3 x4 o6
      refine vX10_feud_32 hA ⟨s0, fun q => ?_, fun _ => ?_⟩
      · rw [e26] at q; exact absurd q (nI_ge (by omega) (by omega))
      · rw [← nI_succ]
        have inn : ∀ m j : Nat, j + m = dH (DD k) → ∀ (x3 x4 : Int32), A (47, [some (.ref 77), some (.int x1), some (.int x2), some (.int x3), some (.int x4), some (.int (nI i)), some (.int (nI j))], [], h', 0, 0) := by
          intro m
          induction m with
          | zero =>
            intro j hj x3 x4
            refine vX10_feud_47 hA ⟨s0, fun _ => ?_, fun q => ?_⟩
            · rw [← nI_succ]; exact ih (i + 1) (by omega) _ _ _
            · rw [e26] at q; exact absurd (nI_le (by omega) (by omega)) q
          | succ m ihm =>
            intro j hj x3 x4
            refine vX10_feud_47 hA ⟨s0, fun q => ?_, fun _ => ⟨s0, c_mapart hm.1 (by omega) (by omega) ⟨_, rfl, fun _ => ⟨s0, c_mapart hm.1 (by omega) (by omega) ⟨_, rfl, eX10_greater ⟨fun _ => ⟨_, rfl, ?_⟩, fun _ => ⟨_, rfl, ?_⟩⟩⟩⟩, fun _ => ⟨s0, c_mapart hm.1 (by omega) (by omega) ⟨_, rfl, eX10_greater ⟨fun _ => ⟨_, rfl, ?_⟩, fun _ => ⟨_, rfl, ?_⟩⟩⟩⟩⟩⟩⟩
            · rw [e26] at q; exact absurd q (nI_ge (by omega) (by omega))
            all_goals (rw [← nI_succ]; exact ihm (j + 1) (by omega) _ _)
        exact inn n (i + 1) (by omega) _ _
  exact key (dH (DD k)) 0 (by omega) _ _ _
theorem n_feud (a : IV h S Im tp) (b : 103 ≤ h.1 ∧ h.1 ≤ B) (x1 x2 : Int32) : prN (mX9_feud g) (mX10_feud g) [.ref 0, .int x1, .int x2] [.ref 77, .int x1, .int x2] h (inv B) := pr_n a b (fun Ret k => t9_feud (iv_tc a) k) (fun h1 Ret a1 k => t10_feud (iv_tc a1) k)
/-! BUYER: both answer -/
def gB (x : Int64) : Prop := -463856467968 ≤ x.toInt ∧ x.toInt ≤ 463856467968
theorem t9_buyer {x1 x2 : Int32} (a : tc h z DD N C) (hq : ∀ (v : Int32) h', ax_same cl_F h h' → Ret (some (.int v)) h') : mX9_buyer g [.ref 0, .int x1, .int x2] h Ret := by
  refine uX9_buyer (fun A hA => vX9_buyer_0 hA ⟨a.1.1, q_begun a (fun q => Or.inr ⟨rfl, hq _ h sm_rf⟩) (fun k hk ex ok h' hs xs hc => Or.inl ⟨_, rfl, hc.1.1.1, fun _ => hq _ h' hs, fun _ => ⟨fun _ => hq _ h' hs, fun _ => ⟨fun _ => ⟨xs.1, _, xs.2.1.2.2.2.1, hc.2.1.1.1, c_bestHour (by have := ok.1.1; omega) hc.2.1 ⟨_, rfl, xs.1, c_gainBy xs hc ⟨_, rfl, ?_⟩⟩⟩, fun _ => hq _ h' hs⟩⟩⟩)⟩)
  have P6 := ok.2.1
  have e6 := hc.1.2.2.1.2
  have fin : ∀ v : Int32, Ret (some (.int v)) h' := fun v => hq v h' hs
  have key : ∀ n i : Nat, dP (DD k) ≤ i + n → i ≤ 7 → ∀ (x4 : Int32) (x5 x7 : Int64) (o10 o11 : Option Value), gB x5 → gB x7 → A (53, [some (.ref 0), some (.int x1), some (.int x2), some (.ref (6 + 14 * k)), some (.int x4), some (.long x5), none, some (.long x7), none, some (.int (nI i)), o10, o11], [], h', 0, 0) := by
    intro n
    induction n with
    | zero =>
      intro i hi h7 x4 x5 x7 o10 o11 b5 b7
      refine vX9_buyer_53 hA ⟨hc.1.1.1, fun _ => ⟨fun _ => ⟨xs.1, _, xs.2.1.2.2.2.2.1, hc.2.2.1.1, fun _ => ?_, fun _ => ?_⟩, fun _ => fin _⟩, fun q => ?_⟩
      · rw [hc.2.2.2.2.2.1]; exact c_side (by unfold gB at b7; omega) (t_pos ok) ⟨_, rfl, fin _⟩
      · rw [hc.2.2.2.2.2.1]; exact c_side (by unfold gB at b7; omega) (t_pos ok) ⟨_, rfl, fin _⟩
      · rw [e6] at q; exact absurd (nI_le (by omega) (by omega)) q
    | succ n ih =>
      intro i hi h7 x4 x5 x7 o10 o11 b5 b7
      refine vX9_buyer_53 hA ⟨hc.1.1.1, fun _ => ⟨fun _ => ⟨xs.1, _, xs.2.1.2.2.2.2.1, hc.2.2.1.1, fun _ => ?_, fun _ => ?_⟩, fun _ => fin _⟩, fun q => ⟨xs.1, _, xs.2.1.2.2.2.1, hc.2.1.1.1, c_bestHour (by have := ok.1.1; omega) hc.2.1 ⟨_, rfl, xs.1, c_gainBy xs hc ⟨_, rfl, fun q1 => ?_, fun q1 => ?_⟩⟩⟩⟩
      · rw [hc.2.2.2.2.2.1]; exact c_side (by unfold gB at b7; omega) (t_pos ok) ⟨_, rfl, fin _⟩
      · rw [hc.2.2.2.2.2.1]; exact c_side (by unfold gB at b7; omega) (t_pos ok) ⟨_, rfl, fin _⟩
      · rw [e6, nI_leI (by omega) (by omega)] at q
        rw [← nI_succ]
        refine ih (i + 1) (by omega) (by omega) _ _ _ _ _ b5 ?_
        split
        · exact b7
        · exact gn_bd ok _ _
      · rw [e6, nI_leI (by omega) (by omega)] at q
        rw [← nI_succ]
        exact ih (i + 1) (by omega) (by omega) _ _ _ _ _ (gn_bd ok _ _) b5
  exact key 6 1 (by omega) (by omega) _ _ _ _ _ (gn_bd ok _ _) (by unfold gB; decide)
theorem t10_buyer {x1 x2 : Int32} (a : tc h z DD N C) (hq : ∀ (v : Int32) h', ax_same md_F h h' → Ret (some (.int v)) h') : mX10_buyer g [.ref 77, .int x1, .int x2] h Ret := by
  obtain ⟨a1, T1, hs1⟩ := q_code (v := 0) a.2.1 a.2.2.2.1
  refine uX10_buyer (fun A hA => vX10_buyer_0 hA ⟨a.2.1.1, ?_⟩)
  intro h1
  refine c_min ⟨_, rfl, fun _ => hq _ _ hs1, fun _ => ⟨a1.1, q_hand a1 T1 a.2.2.2.2 (fun q => ⟨_, rfl, fun _ => hq _ _ hs1, fun q => absurd rfl q⟩) (fun k hk ex ok h' hs hm => ⟨_, rfl, fun q => absurd q (by decide), fun _ => ⟨hm.1.1.1.1, fun q0 => ?_, fun _ => hq _ _ (sm_tr hs1 hs)⟩⟩)⟩⟩
  have fin : ∀ v : Int32, Ret (some (.int v)) h' := fun v => hq v h' (sm_tr hs1 hs)
  have mb := hm.1.1
  have s0 := mb.1.1
  have H12 := ok.1.2
  have H2 := ok.1.1
  have P6 := ok.2.1
  have e27 := mb.2.2.2.2.2.1
  have P0 : 0 < dP (DD k) := by
    rw [e27] at q0
    rcases Nat.eq_zero_or_pos (dP (DD k)) with e | e
    · rw [e] at q0; exact absurd nI_0 q0
    · exact e
  have bh : ∀ p : Nat, sp_bh (dP (DD k)) (dH (DD k)) (sp_vl (DD k)) (nI p) = nI (bst (fun q => sp_br (dP (DD k)) (dH (DD k)) (sp_vl (DD k)) (nI p) (nI q)) (dH (DD k) - 1)) ∧ bst (fun q => sp_br (dP (DD k)) (dH (DD k)) (sp_vl (DD k)) (nI p) (nI q)) (dH (DD k) - 1) < dH (DD k) := fun p => ⟨rfl, by have := bst_le (fun q => sp_br (dP (DD k)) (dH (DD k)) (sp_vl (DD k)) (nI p) (nI q)) (dH (DD k) - 1); omega⟩
  have key2 : ∀ n i : Nat, i + n = dP (DD k) → ∀ (x3 x6 : Int32) (x4 : Int64) (o8 o9 : Option Value), gB x4 → A (95, [some (.ref 77), some (.int x1), some (.int x2), some (.int x3), some (.long x4), none, some (.int x6), some (.int (nI i)), o8, o9], [], h', 0, 0) := by
    intro n
    induction n with
    | zero =>
      intro i hi x3 x6 x4 o8 o9 b4
      refine vX10_buyer_95 hA ⟨s0, fun _ => ⟨fun _ => ⟨s0, fun _ => ?_, fun _ => ?_⟩, fun _ => fin _⟩, fun q => ?_⟩
      · rw [hm.2.2.1]; exact c_part (by unfold gB at b4; omega) (t_pos ok) ⟨_, rfl, fin _⟩
      · rw [hm.2.2.1]; exact c_part (by unfold gB at b4; omega) (t_pos ok) ⟨_, rfl, fin _⟩
      · rw [e27] at q; exact absurd (nI_le (by omega) (by omega)) q
    | succ n ih =>
      intro i hi x3 x6 x4 o8 o9 b4
      refine vX10_buyer_95 hA ⟨s0, fun q => ?_, fun q => ⟨fun _ => ?_, fun _ => ⟨s0, c_mwishOf (by omega) hm.1 (by omega) ⟨_, rfl, s0, ?_⟩⟩⟩⟩
      · rw [e27] at q; exact absurd q (nI_ge (by omega) (by omega))
      · rw [← nI_succ]; exact ih (i + 1) (by omega) _ _ _ _ _ b4
      · rw [(bh i).1]
        refine c_mgainOf hm.1 hm.2 (by omega) (bh i).2 ⟨_, rfl, fun _ => ?_, fun _ => ⟨fun _ => ?_, fun _ => ?_⟩⟩
        · rw [← nI_succ]; exact ih (i + 1) (by omega) _ _ _ _ _ (gn_bd ok _ _)
        · rw [← nI_succ]; exact ih (i + 1) (by omega) _ _ _ _ _ b4
        · rw [← nI_succ]; exact ih (i + 1) (by omega) _ _ _ _ _ (gn_bd ok _ _)
  have key : ∀ n i j : Nat, i + n = dP (DD k) → j < dP (DD k) → ∀ (o5 o6 o7 o8 o9 : Option Value), A (38, [some (.ref 77), some (.int x1), some (.int x2), some (.int (nI j)), some (.int (nI i)), o5, o6, o7, o8, o9], [], h', 0, 0) := by
    intro n
    induction n with
    | zero =>
      intro i j hi hj o5 o6 o7 o8 o9
      refine vX10_buyer_38 hA ⟨s0, fun _ => key2 (dP (DD k)) 0 (by omega) _ _ _ _ _ (by unfold gB; decide), fun q => ?_⟩
      rw [e27] at q; exact absurd (nI_le (by omega) (by omega)) q
    | succ n ih =>
      intro i j hi hj o5 o6 o7 o8 o9
      refine vX10_buyer_38 hA ⟨s0, fun q => ?_, fun q => ⟨s0, c_mwishOf (by omega) hm.1 (by omega) ⟨_, rfl, s0, ?_⟩⟩⟩
      · rw [e27] at q; exact absurd q (nI_ge (by omega) (by omega))
      · rw [(bh i).1]
        refine c_mgainOf hm.1 hm.2 (by omega) (bh i).2 ⟨_, rfl, s0, c_mwishOf (by omega) hm.1 hj ⟨_, rfl, s0, ?_⟩⟩
        rw [(bh j).1]
        refine c_mgainOf hm.1 hm.2 hj (bh j).2 ⟨_, rfl, fun _ => ?_, fun _ => ?_⟩
        · rw [← nI_succ]; exact ih (i + 1) j (by omega) hj _ _ _ _ _
        · rw [← nI_succ]; exact ih (i + 1) i (by omega) (by omega) _ _ _ _ _
  exact key (dP (DD k) - 1) 1 0 (by omega) P0 _ _ _ _ _
theorem n_buyer (a : IV h S Im tp) (b : 103 ≤ h.1 ∧ h.1 ≤ B) (x1 x2 : Int32) : prN (mX9_buyer g) (mX10_buyer g) [.ref 0, .int x1, .int x2] [.ref 77, .int x1, .int x2] h (inv B) := pr_n a b (fun Ret k => t9_buyer (iv_tc a) k) (fun h1 Ret a1 k => t10_buyer (iv_tc a1) k)
end
end

section
section
variable {g : ax_G} {Ret : Option Value → ax_H → Prop} {h : ax_H} {z : Nat → Nat} {DD : Nat → rD} {N : Nat → Nat → Nat} {C : Nat → Nat → Nat → Nat → Int32} {S : sT} {Im : Nat → Option sT} {tp : Nat → Nat} {B : Nat}
theorem c_stopsN {r : Nat} {x : Int32} (hq : Ret (some (.int 1)) h) : mX9_stops g [.ref r, .null, .int x] h Ret := ax_meth (tbl := tX9_stops g) (by decide +kernel) (Nat.le_of_ble_eq_true rfl) (oX9_stops g) (fun A hA => ax_go1 hA (fun p => Nat.beq p 20) 900 _ ⟨Or.inr rfl, hq⟩)
theorem lc_in {n w i j : Nat} {C1 : Nat → Nat → Int32} (hn : n ≤ 14) (hw : w ≤ 3) (hi : i < n) (hj : j < w) : sp_lc n w C1 (nI i) (nI j) = C1 i j := by
  unfold sp_lc
  rw [sp_in_nI (by omega) hi, sp_in_nI (by omega) hj, nI_clamp (by omega), nI_clamp (by omega)]; rfl
theorem c_stops {r l n : Nat} {D : rD} {C1 : Nat → Nat → Int32} {x : Int32} (rc : rc_at h r D) (L : li_at h l 1 n C1) (h1 : Ret (some (.int 1)) h) (h0 : ∀ m, x = nI m → m ≤ n → (∀ d, d < m → sp_in (C1 d 0) (dH D) = true) → Ret (some (.int 0)) h) : mX9_stops g [.ref r, .ref l, .int x] h Ret := by
  have n14 : n ≤ 14 := L.2.1
  have e3 := L.2.2.1
  refine uX9_stops (fun A hA => vX9_stops_0 hA ⟨fun _ => ⟨Or.inr rfl, h1⟩, fun q => ⟨L.1.1, fun q1 => ?_, fun _ => ⟨Or.inr rfl, h1⟩⟩⟩)
  rw [e3] at q1
  obtain ⟨m, _, hm, rfl⟩ := i_rng (a := 0) (b := n) (by omega) (by omega) (nt_lt.mp q) q1
  have key : ∀ j i : Nat, i + j = m → (∀ d, d < i → sp_in (C1 d 0) (dH D) = true) → A (20, [some (.ref r), some (.ref l), some (.int (nI m)), some (.int (nI i))], [], h, 0, 0) := by
    intro j
    induction j with
    | zero =>
      intro i hi hd
      refine vX9_stops_20 hA ⟨fun _ => ⟨Or.inl rfl, h0 m rfl hm (by rw [show m = i by omega]; exact hd)⟩, fun q => ?_⟩
      exact absurd (nI_le (by omega) (by omega)) q
    | succ j ih =>
      intro i hi hd
      refine vX9_stops_20 hA ⟨fun q => ?_, fun _ => ⟨L.1.1, c_lcell (by decide) (by decide) L ⟨_, rfl, rc.1.1, c_hasHour rc ⟨_, rfl, fun q2 => ?_, fun _ => ⟨Or.inr rfl, h1⟩⟩⟩⟩⟩
      · exact absurd q (nI_ge (by omega) (by omega))
      · rw [← nI_succ]
        rw [show sp_lc n (lw 1) C1 (nI i) 0 = C1 i 0 from lc_in n14 (by decide) (by omega) (by decide)] at q2
        refine ih (i + 1) (by omega) (fun d hd2 => ?_)
        by_cases e : d = i
        · rw [e]; exact b2i_n0.mp q2
        · exact hd d (by omega)
  exact key m 0 (by omega) (fun d hd => absurd hd (Nat.not_lt_zero d))
/-- a course under way -/
def lvg (h hh : ax_H) (D : rD) : Prop := ax_same cl_F h hh ∧ ∃ hv, co_at hh 52 (dP D) (dH D) hv (sp_vl D)
theorem tc_cl {h' : ax_H} (s : ax_same cl_F h h') (a : tc h z DD N C) : tc h' z DD N C := tc_same (sm_mono s (fun x q => Or.inl q)) a
theorem lv_live {hh : ax_H} {D : rD} {y : Int32} (L : lvg h hh D) (k : ∀ h2, lvg h h2 D → ax_same (fun a => a = 53) hh h2 → Ret none h2) : mX0_live g [.ref 52, .int y] hh Ret := by
  obtain ⟨hs, hv, co⟩ := L
  exact c_live co (fun h2 s2 c2 => k h2 ⟨sm_tr hs (sm_mono s2 (fun x q => by unfold cl_F; omega)), _, c2⟩ s2)
theorem have_at {hh : ax_H} {p P H : Nat} {hv : Nat → Int32} {vl : Nat → Nat → Int32} (co : co_at hh 52 P H hv vl) (hp : p < P) : ax_r hh 52 0 = some 53 ∧ (ax_s hh 53).1 = 11 ∧ vp_in (nI p) (ax_s hh 53).2 := ⟨co.1.2.1, by rw [co.1.2.2.2.1], by rw [co.1.2.2.2.1]; exact vp_in_nI (by have := co.2.1.1; omega) (by decide)⟩
theorem t9_purse {x1 x2 x3 x4 : Int32} (a : tc h z DD N C) (hq : ∀ (v : Int32) h', ax_same cl_F h h' → Ret (some (.int v)) h') : mX9_purse g [.ref 0, .int x1, .int x2, .int x3, .int x4] h Ret := by
  refine uX9_purse (fun A hA => vX9_purse_0 hA ⟨a.1.1, q_begun a (fun q => Or.inr ⟨rfl, a.1.1, _, a.1.2.1.1, a.2.2.1.1.1, c_linesAt (s0 := 1) a.2.2.1 (by decide) (by decide) (fun _ => Or.inr ⟨rfl, hq _ h sm_rf⟩) (fun k hk ex => Or.inl ⟨_, rfl, hq _ h sm_rf⟩)⟩) (fun k hk ex ok h' hs xs hc => Or.inl ⟨_, rfl, ?_⟩)⟩)
  have b := tc_cl hs a
  have fin : ∀ v : Int32, Ret (some (.int v)) h' := fun v => hq v h' hs
  refine ⟨b.1.1, _, b.1.2.1.1, b.2.2.1.1.1, c_linesAt (s0 := 1) b.2.2.1 (by decide) (by decide) (fun _ => Or.inr ⟨rfl, hc.1.1.1, c_hasPersonOrAll hc.1 ⟨_, rfl, fun _ => fin _, fun _ => c_stopsN ⟨_, rfl, fun q => absurd q (by decide), fun _ => fin _⟩⟩⟩) (fun w hw ew => Or.inl ⟨_, rfl, hc.1.1.1, c_hasPersonOrAll hc.1 ⟨_, rfl, fun _ => fin _, fun q4 => c_stops hc.1 (b.2.2.1.2.2.2 1 w (by decide) (by decide) hw) ⟨_, rfl, fun q => absurd q (by decide), fun _ => fin _⟩ (fun m em hm hd => ⟨_, rfl, fun _ => ?_, fun q => absurd rfl q⟩)⟩⟩)⟩
  subst em
  have n14 : N 1 w ≤ 14 := (b.2.2.1.2.2.2 1 w (by decide) (by decide) hw).2.1
  have key : ∀ n i : Nat, i + n = m → ∀ hh, lvg h hh (DD k) → A (50, [some (.ref 0), some (.int x1), some (.int x2), some (.int (nI m)), some (.int x4), some (.ref (6 + 14 * k)), some (.ref (lnp 1 1 w)), some (.int (nI i))], [], hh, 0, 0) := by
    intro n
    induction n with
    | zero =>
      intro i hi hh L
      have c := tc_cl L.1 a
      obtain ⟨hv, co⟩ := L.2
      refine vX9_purse_50 hA ⟨fun _ => ⟨fun q => ⟨c.1.1, _, c.1.2.1.2.2.2.1, co.1.1, ?_⟩, fun _ => ⟨c.1.1, _, c.1.2.1.2.2.2.1, co.1.1, c_poorest co ⟨_, rfl, hq _ hh L.1⟩⟩⟩, fun q => absurd (nI_le (by omega) (by omega)) q⟩
      have q5 := b2i_n0.mp q4
      rw [decide_eq_false q, Bool.false_or] at q5
      obtain ⟨p, hp, rfl⟩ := sp_in_ix (by have := ok.2.1; omega) q5
      obtain ⟨e1, e2, e3⟩ := have_at co hp
      exact ⟨_, e1, e2, e3, hq _ hh L.1⟩
    | succ n ih =>
      intro i hi hh L
      have c := tc_cl L.1 a
      obtain ⟨hv, co⟩ := L.2
      refine vX9_purse_50 hA ⟨fun q => absurd q (nI_ge (by omega) (by omega)), fun _ => ⟨c.1.1, _, c.1.2.1.2.2.2.1, (c.2.2.1.2.2.2 1 w (by decide) (by decide) hw).1.1, c_lcell (by decide) (by decide) (c.2.2.1.2.2.2 1 w (by decide) (by decide) hw) ⟨_, rfl, co.1.1, lv_live L (fun h2 L2 _ => ⟨rfl, ?_⟩)⟩⟩⟩
      rw [← nI_succ]; exact ih (i + 1) (by omega) h2 L2
  exact key m 0 (by omega) h' ⟨hs, _, hc.2.1⟩
/-! LIKELY -/
theorem p108 : ∀ i, i ≤ 6 → (108 : Int) ^ i ≤ 1586874322944 := by decide +kernel
theorem mulB {x y : Int64} {i : Nat} (hi : i < 6) (h1 : 0 ≤ x.toInt) (h2 : x.toInt ≤ 108 ^ i) (h3 : 0 ≤ y.toInt) (h4 : y.toInt ≤ 108) : (x * y).toInt = x.toInt * y.toInt ∧ 0 ≤ x.toInt * y.toInt ∧ x.toInt * y.toInt ≤ 108 ^ (i + 1) := by
  have a : 0 ≤ x.toInt * y.toInt := Int.mul_nonneg h1 h3
  have b : x.toInt * y.toInt ≤ 108 ^ (i + 1) := by
    rw [Int.pow_succ]
    exact Int.mul_le_mul h2 h4 h3 (Int.le_trans h1 h2)
  have c := p108 (i + 1) (by omega)
  exact ⟨i64_mul (by omega) (by omega), a, b⟩
theorem t9_likely {x1 x2 x3 x4 : Int32} (a : tc h z DD N C) (hq : ∀ (v : Int64) h', ax_same cl_F h h' → Ret (some (.long v)) h') : mX9_likely g [.ref 0, .int x1, .int x2, .int x3, .int x4] h Ret := by
  refine uX9_likely (fun A hA => vX9_likely_0 hA ⟨a.1.1, q_begun a (fun q => Or.inr ⟨rfl, a.1.1, _, a.1.2.1.1, a.2.2.1.1.1, c_linesAt (s0 := 1) a.2.2.1 (by decide) (by decide) (fun _ => Or.inr ⟨rfl, hq _ h sm_rf⟩) (fun k hk ex => Or.inl ⟨_, rfl, hq _ h sm_rf⟩)⟩) (fun k hk ex ok h' hs xs hc => Or.inl ⟨_, rfl, ?_⟩)⟩)
  have b := tc_cl hs a
  have fin : ∀ v : Int64, Ret (some (.long v)) h' := fun v => hq v h' hs
  refine ⟨b.1.1, _, b.1.2.1.1, b.2.2.1.1.1, c_linesAt (s0 := 1) b.2.2.1 (by decide) (by decide) (fun _ => Or.inr ⟨rfl, fun _ => fin _, fun _ => c_stopsN ⟨_, rfl, fun q => absurd q (by decide), fun _ => fin _⟩⟩) (fun w hw ew => Or.inl ⟨_, rfl, fun _ => fin _, fun q6 => c_stops hc.1 (b.2.2.1.2.2.2 1 w (by decide) (by decide) hw) ⟨_, rfl, fun q => absurd q (by decide), fun _ => fin _⟩ (fun m em hm hd => ⟨_, rfl, fun _ => ?_, fun q => absurd rfl q⟩)⟩)⟩
  subst em
  have n14 : N 1 w ≤ 14 := (b.2.2.1.2.2.2 1 w (by decide) (by decide) hw).2.1
  have m6 : m ≤ 6 := Nat.le_of_not_lt (fun q => q6 (nI_lt (a := 6) q (by omega)))
  have H12 := ok.1.2
  have key : ∀ n i : Nat, i + n = m → ∀ hh, lvg h hh (DD k) → ∀ (x7 x9 : Int64) (o12 : Option Value), 0 ≤ x7.toInt → x7.toInt ≤ 108 ^ i → 0 < x9.toInt → x9.toInt ≤ 108 ^ i → A (53, [some (.ref 0), some (.int x1), some (.int x2), some (.int (nI m)), some (.int x4), some (.ref (6 + 14 * k)), some (.ref (lnp 1 1 w)), some (.long x7), none, some (.long x9), none, some (.int (nI i)), o12], [], hh, 0, 0) := by
    intro n
    induction n with
    | zero =>
      intro i hi hh L x7 x9 o12 b1 b2 b3 b4
      exact vX9_likely_53 hA ⟨fun _ => c_side (by omega) b3 ⟨_, rfl, hq _ hh L.1⟩, fun q => absurd (nI_le (by omega) (by omega)) q⟩
    | succ n ih =>
      intro i hi hh L x7 x9 o12 b1 b2 b3 b4
      have c := tc_cl L.1 a
      obtain ⟨hv, co⟩ := L.2
      have li := c.2.2.1.2.2.2 1 w (by decide) (by decide) hw
      refine vX9_likely_53 hA ⟨fun q => absurd q (nI_ge (by omega) (by omega)), fun _ => ⟨li.1.1, c_lcell (by decide) (by decide) li ⟨_, rfl, c.1.1, _, c.1.2.1.2.2.2.2.1, c.1.1, _, c.1.2.1.2.2.2.1, co.1.1, c_poorest co ⟨_, rfl, c.1.2.2.2.1.1, c_weigh c.1.2.2.2.1 (c.2.2.1.2.2.1 k hk) (fun j hj q => by unfold od_F at q; have := a.2.2.2.2.1 0 (by decide); omega) (fun h2 s2 od => ⟨rfl, ?_⟩)⟩⟩⟩⟩
      rw [show sp_lc (N 1 w) (lw 1) (C 1 w) (nI i) 0 = C 1 w i 0 from lc_in n14 (by decide) (by omega) (by decide)]
      obtain ⟨y, hy, ey⟩ := sp_in_ix (by omega) (hd i (by omega))
      rw [ey]
      have s3 : ax_same cl_F h h2 := sm_tr L.1 (sm_mono s2 (fun x q => by unfold od_F at q; unfold cl_F; omega))
      have c2 := tc_cl s3 a
      have co2 := co_at_same s2 (by refine ⟨?_, ?_, ?_⟩ <;> (intro q; unfold od_F at q; omega)) co
      refine ⟨c2.1.1, _, c2.1.2.1.2.2.2.2.1, od.1.1, _, od.1.2.1, by rw [od.1.2.2], by rw [od.1.2.2]; exact vp_in_nI (by omega) (by decide), c2.1.1, _, c2.1.2.1.2.2.2.2.1, od.1.1, c2.1.1, _, c2.1.2.1.2.2.2.1, co2.1.1, lv_live ⟨s3, _, co2⟩ (fun h4 L4 s4 => ⟨rfl, ?_⟩)⟩
      rw [nI_clamp (by omega), od.2.2.2.2 y hy, od.2.2.2.1, ← nI_succ]
      have bw := sp_w_bd ok (sp_po (dP (DD k)) hv) y
      have bt := sp_t_bd ok (sp_po (dP (DD k)) hv)
      have m1 := mulB (x := x7) (y := (sp_w (DD k) (sp_po (dP (DD k)) hv) y).toInt64) (i := i) (by omega) b1 b2 (by rw [i_64]; omega) (by rw [i_64]; omega)
      have m2 := mulB (x := x9) (y := (sp_t (DD k) (sp_po (dP (DD k)) hv)).toInt64) (i := i) (by omega) (by omega) b4 (by rw [i_64]; omega) (by rw [i_64]; omega)
      have pos : 0 < x9.toInt * (sp_t (DD k) (sp_po (dP (DD k)) hv)).toInt64.toInt := Int.mul_pos b3 (by rw [i_64]; omega)
      exact ih (i + 1) (by omega) h4 L4 _ _ _ (by rw [m1.1]; exact m1.2.1) (by rw [m1.1]; exact m1.2.2) (by rw [m2.1]; exact pos) (by rw [m2.1]; exact m2.2.2)
  exact key m 0 (by omega) h' ⟨hs, _, hc.2.1⟩ _ _ _ (by decide) (by decide) (by decide) (by decide)
end
end

section
section
variable {g : ax_G} {Ret : Option Value → ax_H → Prop} {h : ax_H} {z : Nat → Nat} {DD : Nat → rD} {N : Nat → Nat → Nat} {C : Nat → Nat → Nat → Nat → Int32} {S : sT} {Im : Nat → Option sT} {tp : Nat → Nat} {B : Nat}
/-! DRAWN, of the class -/
theorem c_hourOf {H : Nat} {w : Nat → Int32} {t x : Int32} (od : od_at h 55 H w t) (ht : ¬ t = 0) (hH : 1 ≤ H) (hq : ∀ v : Int32, Ret (some (.int v)) h) : mX3_hourOf g [.ref 55, .int x] h Ret := by
  have H12 := od.2.1
  refine uX3_hourOf (fun A hA => vX3_hourOf_0 hA ?_)
  have key : ∀ n i : Nat, i + n = H - 1 → ∀ (o1 : Option Value) (x2 : Int32), A (20, [some (.ref 55), o1, some (.int x2), some (.int (nI i))], [], h, 0, 0) := by
    intro n
    have e1 : nI H - 1 = nI (H - 1) := by
      obtain ⟨j, rfl⟩ : ∃ j, H = j + 1 := ⟨H - 1, by omega⟩
      exact nI_pred j
    induction n with
    | zero =>
      intro i hi o1 x2
      refine vX3_hourOf_20 hA ⟨od.1.1, fun _ => hq _, fun q => ?_⟩
      rw [od.2.2.1, e1] at q; exact absurd (nI_le (by omega) (by omega)) q
    | succ n ih =>
      intro i hi o1 x2
      refine vX3_hourOf_20 hA ⟨od.1.1, fun q => ?_, fun _ => ⟨od.1.1, _, od.1.2.1, by rw [od.1.2.2], by rw [od.1.2.2]; exact vp_in_nI (by omega) (by decide), fun _ => hq _, fun _ => ⟨od.1.1, _, od.1.2.1, by rw [od.1.2.2], by rw [od.1.2.2]; exact vp_in_nI (by omega) (by decide), ?_⟩⟩⟩
      · rw [od.2.2.1, e1] at q; exact absurd q (nI_ge (by omega) (by omega))
      · rw [← nI_succ]; exact ih (i + 1) (by omega) _ _
  rw [od.2.2.2.1]
  exact ⟨od.1.1, fun _ => ⟨od.1.1, ht, key (H - 1) 0 (by omega) _ _⟩, fun q => absurd q ht⟩
theorem spt_ne {D : rD} (ok : rd_ok D) (x : Int32) : ¬ sp_t D x = 0 := fun e => by have := (sp_t_bd ok x).1; rw [e] at this; exact absurd this (by decide)
theorem t9_drawn {x1 x2 x3 x4 : Int32} (a : tc h z DD N C) (hq : ∀ (v : Int32) h', ax_same cl_F h h' → Ret (some (.int v)) h') : mX9_drawn g [.ref 0, .int x1, .int x2, .int x3, .int x4] h Ret := by
  refine uX9_drawn (fun A hA => vX9_drawn_0 hA ⟨a.1.1, q_begun a (fun q => Or.inr ⟨rfl, hq _ h sm_rf⟩) (fun k hk ex ok h' hs xs hc => Or.inl ⟨_, rfl, fun _ => hq _ h' hs, fun q0 => ⟨fun q60 => ?_, fun _ => hq _ h' hs⟩⟩)⟩)
  obtain ⟨m, _, hm, rfl⟩ := i_rng (a := 0) (b := 60) (by omega) (by omega) (nt_lt.mp q0) q60
  have key : ∀ n i : Nat, i + n = m → ∀ hh, lvg h hh (DD k) → ∀ (x6 x7 x8 x9 : Int32), A (44, [some (.ref 0), some (.int x1), some (.int x2), some (.int (nI m)), some (.int x4), some (.ref (6 + 14 * k)), some (.int x6), some (.int x7), some (.int x8), some (.int x9), some (.int (nI i))], [], hh, 0, 0) := by
    intro n
    induction n with
    | zero =>
      intro i hi hh L x6 x7 x8 x9
      have c := tc_cl L.1 a
      obtain ⟨hv, co⟩ := L.2
      have rc := c.2.2.1.2.2.1 k hk
      have fin : ∀ v : Int32, Ret (some (.int v)) hh := fun v => hq v hh L.1
      refine vX9_drawn_44 hA ⟨fun _ => ⟨rc.1.1, c_hasPerson rc ⟨_, rfl, fun _ => ⟨fun _ => ⟨fun _ => ⟨rc.1.1, c_hasHour rc ⟨_, rfl, fun _ => fin _, fun _ => fin _⟩⟩, fun _ => fin _⟩, fun _ => ⟨c.1.1, _, c.1.2.1.2.2.2.1, co.1.1, c_poorest co ⟨_, rfl, fin _⟩⟩⟩, fun q => ⟨c.1.1, _, c.1.2.1.2.2.2.1, co.1.1, ?_⟩⟩⟩, fun q => absurd (nI_le (by omega) (by omega)) q⟩
      obtain ⟨p, hp, rfl⟩ := sp_in_ix (by have := ok.2.1; omega) (b2i_n0.mp q)
      obtain ⟨e1, e2, e3⟩ := have_at co hp
      exact ⟨_, e1, e2, e3, fin _⟩
    | succ n ih =>
      intro i hi hh L x6 x7 x8 x9
      have c := tc_cl L.1 a
      obtain ⟨hv, co⟩ := L.2
      refine vX9_drawn_44 hA ⟨fun q => absurd q (nI_ge (by omega) (by omega)), fun _ => ⟨c.1.1, _, c.1.2.1.2.2.2.2.1, c.1.1, _, c.1.2.1.2.2.2.1, co.1.1, c_poorest co ⟨_, rfl, c.1.2.2.2.1.1, c_weigh c.1.2.2.2.1 (c.2.2.1.2.2.1 k hk) (fun j hj q => by unfold od_F at q; have := a.2.2.2.2.1 0 (by decide); omega) (fun h2 s2 od => ⟨rfl, ?_⟩)⟩⟩⟩
      have s3 : ax_same cl_F h h2 := sm_tr L.1 (sm_mono s2 (fun x q => by unfold od_F at q; unfold cl_F; omega))
      have c2 := tc_cl s3 a
      have co2 := co_at_same s2 (by refine ⟨?_, ?_, ?_⟩ <;> (intro q; unfold od_F at q; omega)) co
      refine ⟨c2.1.1, _, c2.1.2.1.2.2.2.2.1, ?_⟩
      intro z24
      refine ⟨od.1.1, c_hourOf od (spt_ne ok _) (by have := ok.1.1; omega) (fun v => ⟨_, rfl, c2.1.1, _, c2.1.2.1.2.2.2.1, co2.1.1, lv_live ⟨s3, _, co2⟩ (fun h4 L4 s4 => ⟨rfl, fun _ => ?_, fun _ => ?_⟩)⟩)⟩
      · rw [← nI_succ]; exact ih (i + 1) (by omega) h4 L4 _ _ _ _
      · rw [← nI_succ]; exact ih (i + 1) (by omega) h4 L4 _ _ _ _
  exact key m 0 (by omega) h' ⟨hs, _, hc.2.1⟩ _ _ _ _
/-! REIGN, of the class -/
theorem t9_reign {x1 x2 x3 : Int32} (a : tc h z DD N C) (hq : ∀ (v : Int32) h', ax_same cl_F h h' → Ret (some (.int v)) h') : mX9_reign g [.ref 0, .int x1, .int x2, .int x3] h Ret := by
  refine uX9_reign (fun A hA => vX9_reign_0 hA ⟨a.1.1, q_begun a (fun q => Or.inr ⟨rfl, hq _ h sm_rf⟩) (fun k hk ex ok h' hs xs hc => Or.inl ⟨_, rfl, fun _ => hq _ h' hs, fun q0 => ⟨fun q60 => ?_, fun _ => hq _ h' hs⟩⟩)⟩)
  obtain ⟨m, _, hm, rfl⟩ := i_rng (a := 0) (b := 60) (by omega) (by omega) (nt_lt.mp q0) q60
  have key : ∀ n i : Nat, i + n = m → ∀ hh, lvg h hh (DD k) → ∀ (x5 x6 x7 : Int32) (o9 o10 : Option Value), A (38, [some (.ref 0), some (.int x1), some (.int (nI m)), some (.int x3), some (.ref (6 + 14 * k)), some (.int x5), some (.int x6), some (.int x7), some (.int (nI i)), o9, o10], [], hh, 0, 0) := by
    intro n
    induction n with
    | zero =>
      intro i hi hh L x5 x6 x7 o9 o10
      have c := tc_cl L.1 a
      obtain ⟨hv, co⟩ := L.2
      have rc := c.2.2.1.2.2.1 k hk
      have fin : ∀ v : Int32, Ret (some (.int v)) hh := fun v => hq v hh L.1
      refine vX9_reign_38 hA ⟨fun _ => ⟨rc.1.1, c_hasPerson rc ⟨_, rfl, fun _ => ⟨fun _ => ⟨fun _ => ⟨rc.1.1, c_hasPerson rc ⟨_, rfl, fun _ => fin _, fun _ => fin _⟩⟩, fun _ => fin _⟩, fun _ => ⟨c.1.1, _, c.1.2.1.2.2.2.1, co.1.1, c_poorest co ⟨_, rfl, fin _⟩⟩⟩, fun q => ⟨c.1.1, _, c.1.2.1.2.2.2.1, co.1.1, ?_⟩⟩⟩, fun q => absurd (nI_le (by omega) (by omega)) q⟩
      obtain ⟨p, hp, rfl⟩ := sp_in_ix (by have := ok.2.1; omega) (b2i_n0.mp q)
      obtain ⟨e1, e2, e3⟩ := have_at co hp
      exact ⟨_, e1, e2, e3, fin _⟩
    | succ n ih =>
      intro i hi hh L x5 x6 x7 o9 o10
      have c := tc_cl L.1 a
      obtain ⟨hv, co⟩ := L.2
      have K : ∀ h4, lvg h h4 (DD k) → ∀ (x5 x6 x7 : Int32) (o9 o10 : Option Value), A (38, [some (.ref 0), some (.int x1), some (.int (nI m)), some (.int x3), some (.ref (6 + 14 * k)), some (.int x5), some (.int x6), some (.int x7), some (.int (nI i + 1)), o9, o10], [], h4, 0, 0) := fun h4 L4 x5 x6 x7 o9 o10 => by rw [← nI_succ]; exact ih (i + 1) (by omega) h4 L4 _ _ _ _ _
      refine vX9_reign_38 hA ⟨fun q => absurd q (nI_ge (by omega) (by omega)), fun _ => ⟨c.1.1, _, c.1.2.1.2.2.2.1, co.1.1, c_poorest co ⟨_, rfl, fun _ => ⟨c.1.1, _, c.1.2.1.2.2.2.1, co.1.1, c_bestHour (by have := ok.1.1; omega) co ⟨_, rfl, c.1.1, _, c.1.2.1.2.2.2.1, co.1.1, lv_live L (fun h4 L4 s4 => ⟨rfl, fun _ => ?_, fun _ => ?_⟩)⟩⟩, fun _ => ⟨c.1.1, _, c.1.2.1.2.2.2.1, co.1.1, lv_live L (fun h4 L4 s4 => ⟨rfl, fun _ => ?_, fun _ => ?_⟩)⟩⟩⟩⟩
      · exact ⟨fun _ => ⟨fun _ => K h4 L4 _ _ _ _ _, fun _ => K h4 L4 _ _ _ _ _⟩, fun _ => ⟨fun _ => K h4 L4 _ _ _ _ _, fun _ => K h4 L4 _ _ _ _ _⟩⟩
      · have c4 := tc_cl L4.1 a
        obtain ⟨hv4, co4⟩ := L4.2
        exact ⟨c4.1.1, _, c4.1.2.1.2.2.2.1, co4.1.1, c_poorest co4 ⟨_, rfl, fun _ => ⟨fun _ => ⟨fun _ => K h4 L4 _ _ _ _ _, fun _ => K h4 L4 _ _ _ _ _⟩, fun _ => ⟨fun _ => K h4 L4 _ _ _ _ _, fun _ => K h4 L4 _ _ _ _ _⟩⟩, fun _ => ⟨fun _ => ⟨fun _ => K h4 L4 _ _ _ _ _, fun _ => K h4 L4 _ _ _ _ _⟩, fun _ => ⟨fun _ => K h4 L4 _ _ _ _ _, fun _ => K h4 L4 _ _ _ _ _⟩⟩⟩⟩
      · exact ⟨fun _ => ⟨fun _ => K h4 L4 _ _ _ _ _, fun _ => K h4 L4 _ _ _ _ _⟩, fun _ => ⟨fun _ => K h4 L4 _ _ _ _ _, fun _ => K h4 L4 _ _ _ _ _⟩⟩
      · have c4 := tc_cl L4.1 a
        obtain ⟨hv4, co4⟩ := L4.2
        exact ⟨c4.1.1, _, c4.1.2.1.2.2.2.1, co4.1.1, c_poorest co4 ⟨_, rfl, fun _ => ⟨fun _ => ⟨fun _ => K h4 L4 _ _ _ _ _, fun _ => K h4 L4 _ _ _ _ _⟩, fun _ => ⟨fun _ => K h4 L4 _ _ _ _ _, fun _ => K h4 L4 _ _ _ _ _⟩⟩, fun _ => ⟨fun _ => ⟨fun _ => K h4 L4 _ _ _ _ _, fun _ => K h4 L4 _ _ _ _ _⟩, fun _ => ⟨fun _ => K h4 L4 _ _ _ _ _, fun _ => K h4 L4 _ _ _ _ _⟩⟩⟩⟩
  exact key m 0 (by omega) h' ⟨hs, _, hc.2.1⟩ _ _ _ _ _
end
end

section
section
variable {g : ax_G} {Ret : Option Value → ax_H → Prop} {h : ax_H} {z : Nat → Nat} {DD : Nat → rD} {N : Nat → Nat → Nat} {C : Nat → Nat → Nat → Nat → Int32} {S : sT} {Im : Nat → Option sT} {tp : Nat → Nat} {B : Nat}
/-! a course under way, of the reference -/
theorem c_mlive {m ρ q : Nat} {D : rD} {mo pu : Nat → Int32} {vl : Nat → Nat → Int32} (a : mc_at h m ρ D mo pu vl) (hq0 : q < dH D) (hq : ∀ h', mr (fun j => j = 32 ∨ j = 33) (fun a => a = m + 13 ∨ a = m + 16) m h h' → mc_at h' m ρ D mo (fun p => pu p + vl p q) vl → mw_at h' m (dH D) (sp_w D (sp_po (dP D) (fun p => pu p + vl p q))) (sp_t D (sp_po (dP D) (fun p => pu p + vl p q))) (sp_po (dP D) (fun p => pu p + vl p q)) → Ret none h') : mX10_live g [.ref m, .int (nI q)] h Ret := by
  obtain ⟨hH, hP⟩ := a.1.2.2.1.1
  have e27 := a.1.2.2.2.2.2.1
  refine uX10_live (fun A hA => vX10_live_0 hA ?_)
  have key : ∀ n i : Nat, ∀ hh : ax_H, i + n = dP D → mr noJ (fun a => a = m + 13) m h hh → (∀ p, p < dP D → ax_i hh (m + 13) p = if p < i then pu p + vl p q else pu p) → A (2, [some (.ref m), some (.int (nI q)), some (.int (nI i))], [], hh, 0, 0) := by
    intro n
    induction n with
    | zero =>
      intro i hh hi hs hp
      have b := mb_at_mr hs (by unfold noJ; decide) (by omega) a.1
      refine vX10_live_2 hA ⟨b.1.1, fun _ => ⟨b.1.1, c_mlayOdds (pu := fun p => pu p + vl p q) b (fun p hp' => by rw [hp p hp', if_pos (by omega)]) (fun h' s' w => ⟨rfl, ?_⟩)⟩, fun q => ?_⟩
      · have t : mr (fun j => j = 32 ∨ j = 33) (fun a => a = m + 13 ∨ a = m + 16) m h h' := mr_tr (mr_mono hs (fun _ x => x.elim) (fun _ x => Or.inl x)) (mr_mono s' (fun _ x => x) (fun _ x => Or.inr x))
        refine hq h' t ⟨mb_at_mr t (by decide) (by omega) a.1, fun p hp' => ?_, fun p r hp' hr => ?_, fun p r hp' hr => ?_⟩ w
        · rw [mr_e s' (by omega) (by omega), hp p hp', if_pos (by omega)]
        · rw [mr_e t (by omega) (by omega)]; exact a.2.2.1 p r hp' hr
        · rw [mr_e t (by omega) (by omega)]; exact a.2.2.2 p r hp' hr
      · rw [b.2.2.2.2.2.1] at q; exact absurd (nI_le (by omega) (by omega)) q
    | succ n ih =>
      intro i hh hi hs hp
      have b := mb_at_mr hs (by unfold noJ; decide) (by omega) a.1
      obtain ⟨e1, e2⟩ := mo_pu b.1
      obtain ⟨f1, f2⟩ := mo_va b.1
      have ei : (12 : Int32) * nI i + nI q = nI (12 * i + q) := ni_21
      refine vX10_live_2 hA ⟨b.1.1, fun q => ?_, fun _ => ⟨b.1.1, _, e1, ⟨rfl, rfl⟩, by rw [e2], by rw [e2]; exact vp_in_nI (by omega) (by decide), b.1.1, _, f1, by rw [f2], by rw [ei, f2]; exact vp_in_nI (by omega) (by decide), ?_⟩⟩
      · rw [b.2.2.2.2.2.1] at q; exact absurd q (nI_ge (by omega) (by omega))
      · intro z5
        have ez : z5 = pu i + vl i q := by
          show ax_i hh (m + 13) (nI i).toNatClampNeg + ax_i hh (m + 15) ((12 : Int32) * nI i + nI q).toNatClampNeg = _
          rw [ei, nI_clamp (by omega), nI_clamp (by omega), hp i (by omega), if_neg (by omega), mr_e hs (by omega) (by omega), a.2.2.2 i q (by omega) hq0]
        refine ⟨by rw [e2], by rw [e2]; exact vp_in_nI (by omega) (by decide), ?_⟩
        intro h6
        rw [← nI_succ]
        refine ih (i + 1) h6 (by omega) (mr_tr hs (mr_c rfl (by omega))) (fun p hp' => ?_)
        show ax_i (ax_pi hh (m + 13) (nI i).toNatClampNeg z5) (m + 13) p = _
        rw [nI_clamp (by omega), ai_pi]
        by_cases e : p = i
        · rw [if_pos ⟨rfl, e⟩, if_pos (by omega), ez, e]
        · rw [if_neg (fun w => e w.2), hp p hp']
          by_cases e3 : p < i
          · rw [if_pos e3, if_pos (by omega)]
          · rw [if_neg e3, if_neg (by omega)]
  exact key (dP D) 0 h (by omega) mr_rf (fun p hp => by rw [if_neg (by omega)]; exact a.2.1 p hp)
def lvm (h hh : ax_H) (k : Nat) (D : rD) : Prop := ax_same md_F h hh ∧ ∃ pu, mc_at hh 77 k D (dmo D) pu (sp_vl D) ∧ mw_at hh 77 (dH D) (sp_w D (sp_po (dP D) pu)) (sp_t D (sp_po (dP D) pu)) (sp_po (dP D) pu)
theorem tc_md {h' : ax_H} (s : ax_same md_F h h') (a : tc h z DD N C) : tc h' z DD N C := tc_same (sm_mono s (fun x q => Or.inr q)) a
def lvR (hh h2 : ax_H) : Prop := mr (fun j => j = 32 ∨ j = 33) (fun a => a = 90 ∨ a = 93) 77 hh h2
theorem lv_mlive {hh : ax_H} {k q : Nat} {D : rD} (L : lvm h hh k D) (hq : q < dH D) (K : ∀ h2, lvm h h2 k D → lvR hh h2 → Ret none h2) : mX10_live g [.ref 77, .int (nI q)] hh Ret := by
  obtain ⟨s, pu, c, w⟩ := L
  exact c_mlive c hq (fun h2 m2 c2 w2 => K h2 ⟨sm_tr s (sm_mono m2.1 (fun x e => by unfold md_F; omega)), _, c2, w2⟩ m2)
theorem mw_mr {J F : Nat → Prop} {h' : ax_H} {m H : Nat} {w : Nat → Int32} {t po : Int32} (s : mr J F m h h') (hJ : ¬ J 32 ∧ ¬ J 33) (hF : ¬ F (m + 16)) (a : mw_at h m H w t po) : mw_at h' m H w t po := ⟨fun q hq => by rw [mr_e s (by omega) hF]; exact a.1 q hq, by rw [(s.2 _ hJ.1).1]; exact a.2.1, by rw [(s.2 _ hJ.2).1]; exact a.2.2⟩
/-- a field or a scratch array that the course does not reach -/
theorem lvm_mr {J F : Nat → Prop} {hh h2 : ax_H} {k : Nat} {D : rD} (L : lvm h hh k D) (s : mr J F 77 hh h2) (hJ : ∀ j, J j → j < 25 ∨ (27 < j ∧ j < 32) ∨ 35 < j) (hF : ∀ a, F a → 94 ≤ a ∧ a ≤ 101) : lvm h h2 k D := by
  obtain ⟨s0, pu, c, w⟩ := L
  refine ⟨sm_tr s0 (sm_mono s.1 (fun x e => ?_)), pu, mc_at_mr s ⟨fun q => ?_, fun q => ?_, fun q => ?_, fun q => ?_, fun q => ?_⟩ ⟨fun q => ?_, fun q => ?_, fun q => ?_, fun q => ?_⟩ c, mw_mr s ⟨fun q => ?_, fun q => ?_⟩ (fun q => ?_) w⟩
  · unfold md_F
    rcases e with e | e
    · exact Or.inl e
    · have := hF x e; omega
  all_goals first | (have := hJ _ q; omega) | (have := hF _ q; omega)
theorem lvm_hm {h' : ax_H} {k : Nat} {D : rD} (s : ax_same md_F h h') (hm : hm_at h' k D) : lvm h h' k D := ⟨s, _, hm.1, hm.2⟩
theorem ni_mul {c w : Nat} : (OfNat.ofNat c : Int32) * nI w = nI (c * w) := by
  rw [show (OfNat.ofNat c : Int32) = nI c from by have := ni_c c 0; rw [nI_0, Int32.add_zero, Nat.add_zero] at this; exact this]
  exact pk_mul c w
theorem t_liveDays {hh : ax_H} {k w : Nat} {x : Int32} (a : tc h z DD N C) (ok : rd_ok (DD k)) (L : lvm h hh k (DD k)) (hw : w < z 1) (e36 : ax_i hh 77 36 = nI w) (h0 : ∀ h2, lvm h h2 k (DD k) → Ret (some (.int 0)) h2) (h1 : ∀ h2, lvm h h2 k (DD k) → -9223372036854775808 < (ax_l h2 77 37).toInt → 0 < (ax_l h2 77 38).toInt → Ret (some (.int 1)) h2) : mX10_liveDays g [.ref 77, .int x] hh Ret := by
  have w2 : w < 2 := by have := a.2.2.2.2.1 1 (by decide); omega
  have b := tc_md L.1 a
  have H12 := ok.1.2
  refine uX10_liveDays (fun A hA => vX10_liveDays_0 hA ⟨b.2.1.1, ?_⟩)
  intro u1
  refine ⟨b.2.1.1, ?_⟩
  intro u2
  have ur : mr (fun j => j = 37 ∨ j = 38) (fun _ => False) 77 hh u2 := mr_tr (mr_l (Or.inl rfl)) (mr_l (Or.inr rfl))
  have Lu : lvm h u2 k (DD k) := lvm_mr L ur (fun j hj => by omega) (fun a ha => ha.elim)
  have bu := tc_md Lu.1 a
  have eu : ax_i u2 77 36 = nI w := e36
  obtain ⟨e1, e2⟩ := mo_wk bu.2.1
  have tl := tm_ln bu.2.2.2.1 (show 1 ≤ 1 by decide) (by decide) hw
  have n14 : N 1 w ≤ 14 := (a.2.2.2.2.2.2 1 w (by decide) (by decide) hw).1
  refine ⟨bu.2.1.1, _, e1, bu.2.1.1, by rw [e2], ?_, ?_⟩
  · rw [eu, e2, show (15 : Int32) * nI w = nI (15 * w) from ni_mul]; exact vp_in_nI (by omega) (by decide)
  · rw [eu, show (15 : Int32) * nI w = nI (15 * w) from ni_mul, nI_clamp (by omega), show ax_i u2 (77 + 7) (15 * w) = nI (N 1 w) from tl.1]
    refine c_min ⟨_, rfl, fun q => ?_, fun _ => ⟨Or.inl rfl, h0 u2 Lu⟩⟩
    obtain ⟨m, _, hm, rfl⟩ := i_rng (a := 0) (b := N 1 w) (by omega) (by omega) (of_decide_eq_true (b2i_n0.mp q)).1 (of_decide_eq_true (b2i_n0.mp q)).2
    have key : ∀ n i : Nat, i + n = m → ∀ h3, lvm h h3 k (DD k) → ax_i h3 77 36 = nI w → ∀ (j : Nat) (o3 : Option Value), j ≤ 6 → (i < 6 → j ≤ i) → 0 ≤ (ax_l h3 77 37).toInt → (ax_l h3 77 37).toInt ≤ 108 ^ j → 0 < (ax_l h3 77 38).toInt → (ax_l h3 77 38).toInt ≤ 108 ^ j → A (34, [some (.ref 77), some (.int (nI m)), some (.int (nI i)), o3], [], h3, 0, 0) := by
      intro n
      induction n with
      | zero =>
        intro i hi h3 L3 e3 j o3 hj hij b1 b2 b3 b4
        exact vX10_liveDays_34 hA ⟨fun _ => ⟨Or.inr rfl, h1 h3 L3 (by omega) b3⟩, fun q => absurd (nI_le (by omega) (by omega)) q⟩
      | succ n ih =>
        intro i hi h3 L3 e3 j o3 hj hij b1 b2 b3 b4
        have c := tc_md L3.1 a
        obtain ⟨pu, mc, mw⟩ := L3.2
        have s0 := mc.1.1.1
        refine vX10_liveDays_34 hA ⟨fun q => absurd q (nI_ge (by omega) (by omega)), fun _ => ⟨s0, c_mhourOf c.2.1 c.2.2.2.1 c.2.2.2.2 hw e3 (by omega) ⟨_, rfl, s0, c_misHour mc.1 ⟨_, rfl, fun q => ?_, fun _ => ⟨Or.inl rfl, h0 h3 L3⟩⟩⟩⟩⟩
        obtain ⟨y, hy, ey⟩ := sp_in_ix (by omega) (b2i_n0.mp q)
        rw [ey]
        refine ⟨fun q6 => ⟨s0, lv_mlive L3 hy (fun h4 L4 r4 => ⟨rfl, ?_⟩)⟩, fun q6 => ⟨rfl, s0, s0, ?_⟩⟩
        · rw [← nI_succ]
          have l1 := (r4.2 37 (by decide)).2
          have l2 := (r4.2 38 (by decide)).2
          exact ih (i + 1) (by omega) h4 L4 (by rw [(r4.2 36 (by decide)).1]; exact e3) j _ hj (fun i6 => absurd (show (6 : Int32) ≤ nI i from q6) (nI_ge (a := i) (b := 6) (by omega) (by decide))) (by rw [l1]; exact b1) (by rw [l1]; exact b2) (by rw [l2]; exact b3) (by rw [l2]; exact b4)
        · have i6 : i < 6 := Nat.lt_of_not_le (fun e => q6 (nI_le (a := 6) e (by omega)))
          obtain ⟨f1, f2⟩ := mo_we mc.1.1
          refine ⟨_, f1, by rw [f2], by rw [f2]; exact vp_in_nI (by omega) (by decide), s0, ?_⟩
          intro u3
          refine ⟨rfl, s0, s0, s0, ?_⟩
          intro u4
          have r4 : mr (fun j => j = 37 ∨ j = 38) (fun _ => False) 77 h3 u4 := mr_tr (mr_l (Or.inl rfl)) (mr_l (Or.inr rfl))
          have L4 : lvm h u4 k (DD k) := lvm_mr L3 r4 (fun j hj => by omega) (fun a ha => ha.elim)
          refine ⟨s0, lv_mlive L4 hy (fun h5 L5 r5 => ⟨rfl, ?_⟩)⟩
          rw [← nI_succ]
          have bw := sp_w_bd ok (sp_po (dP (DD k)) pu) y
          have bt := sp_t_bd ok (sp_po (dP (DD k)) pu)
          have m1 := mulB (x := ax_l h3 77 37) (y := (sp_w (DD k) (sp_po (dP (DD k)) pu) y).toInt64) (i := j) (by have := hij i6; omega) b1 b2 (by rw [i_64]; omega) (by rw [i_64]; omega)
          have m2 := mulB (x := ax_l h3 77 38) (y := (sp_t (DD k) (sp_po (dP (DD k)) pu)).toInt64) (i := j) (by have := hij i6; omega) (by omega) b4 (by rw [i_64]; omega) (by rw [i_64]; omega)
          have pos : 0 < (ax_l h3 77 38).toInt * (sp_t (DD k) (sp_po (dP (DD k)) pu)).toInt64.toInt := Int.mul_pos b3 (by rw [i_64]; omega)
          have l1 : ax_l h5 77 37 = ax_l h3 77 37 * (sp_w (DD k) (sp_po (dP (DD k)) pu) y).toInt64 := by
            rw [(r5.2 37 (by decide)).2]
            show ax_l (ax_pl (ax_pl h3 77 37 _) 77 38 _) 77 37 = _
            rw [al_pl, if_neg (by decide), al_pl, if_pos ⟨rfl, rfl⟩, nI_clamp (by omega), mw.1 y hy]
          have l2 : ax_l h5 77 38 = ax_l h3 77 38 * (sp_t (DD k) (sp_po (dP (DD k)) pu)).toInt64 := by
            rw [(r5.2 38 (by decide)).2]
            show ax_l (ax_pl (ax_pl h3 77 37 _) 77 38 (ax_l (ax_pl h3 77 37 _) 77 38 * (ax_i h3 77 32).toInt64)) 77 38 = _
            rw [al_pl, if_pos ⟨rfl, rfl⟩, al_pl, if_neg (by decide), mw.2.1]
          refine ih (i + 1) (by omega) h5 L5 (by rw [(r5.2 36 (by decide)).1]; exact e3) (j + 1) _ (by have := hij i6; omega) (fun _ => by have := hij i6; omega) (by rw [l1, m1.1]; exact m1.2.1) (by rw [l1, m1.1]; exact m1.2.2) (by rw [l2, m2.1]; exact pos) (by rw [l2, m2.1]; exact m2.2.2)
    have p37 : ax_l u2 77 37 = 1 := by
      show ax_l (ax_pl (ax_pl hh 77 37 1) 77 38 1) 77 37 = 1
      rw [al_pl, if_neg (by decide), al_pl, if_pos ⟨rfl, rfl⟩]
    have p38 : ax_l u2 77 38 = 1 := by
      show ax_l (ax_pl (ax_pl hh 77 37 1) 77 38 1) 77 38 = 1
      rw [al_pl, if_pos ⟨rfl, rfl⟩]
    exact key m 0 (by omega) u2 Lu eu 0 _ (by decide) (fun _ => Nat.le_refl _) (by rw [p37]; decide) (by rw [p37]; decide) (by rw [p38]; decide) (by rw [p38]; decide)
end
end

section
section
variable {g : ax_G} {Ret : Option Value → ax_H → Prop} {h : ax_H} {z : Nat → Nat} {DD : Nat → rD} {N : Nat → Nat → Nat} {C : Nat → Nat → Nat → Nat → Int32} {S : sT} {Im : Nat → Option sT} {tp : Nat → Nat} {B : Nat}
theorem t10_purse {x1 x2 x3 x4 : Int32} (a : tc h z DD N C) (hq : ∀ (v : Int32) h', ax_same md_F h h' → Ret (some (.int v)) h') : mX10_purse g [.ref 77, .int x1, .int x2, .int x3, .int x4] h Ret := by
  obtain ⟨a1, T1, hs1⟩ := q_code (v := 0) a.2.1 a.2.2.2.1
  refine eX10_purse ⟨a.2.1.1, ?_⟩
  intro h1
  refine ⟨a1.1, q_hand a1 T1 a.2.2.2.2 (fun q => ⟨_, rfl, fun _ => hq _ _ hs1, fun q => absurd rfl q⟩) (fun k hk ex ok h' hs hm => ⟨_, rfl, fun q => absurd q (by decide), fun _ => ⟨hm.1.1.1.1, ?_⟩⟩)⟩
  have L := lvm_hm (sm_tr hs1 hs) hm
  have b := tc_md L.1 a
  have Lu : lvm h (ax_pi h' 77 36 x2) k (DD k) := lvm_mr L (mr_f (J := fun j => j = 36) (F := fun _ => False) rfl) (fun j hj => by omega) (fun a ha => ha.elim)
  have s0 : (ax_s (ax_pi h' 77 36 x2) 77).1 = 10 := b.2.1.1
  refine c_mhasWeek b.2.1 b.2.2.2.1 b.2.2.2.2 ⟨_, rfl, fun _ => hq _ _ Lu.1, fun q => ?_⟩
  obtain ⟨w, hw, rfl⟩ := sp_in_ix (by have := a.2.2.2.2.1 1 (by decide); omega) (b2i_n0.mp q)
  refine ⟨fun e => ⟨s0, t_liveDays a ok Lu hw ai_eq (fun h2 L2 => ⟨_, rfl, fun q => absurd rfl q, fun _ => hq _ _ L2.1⟩) (fun h2 L2 _ _ => ?_)⟩, fun e => ⟨s0, ?_⟩⟩
  · obtain ⟨pu, mc, mw⟩ := L2.2
    exact ⟨_, rfl, fun _ => ⟨fun q => absurd e q, fun _ => ⟨mc.1.1.1, hq _ _ L2.1⟩⟩, fun q => absurd q (by decide)⟩
  · obtain ⟨pu, mc, mw⟩ := Lu.2
    refine c_misOne mc.1 ⟨_, rfl, fun _ => hq _ _ Lu.1, fun q => ⟨s0, t_liveDays a ok Lu hw ai_eq (fun h2 L2 => ⟨_, rfl, fun q => absurd rfl q, fun _ => hq _ _ L2.1⟩) (fun h2 L2 _ _ => ?_)⟩⟩
    obtain ⟨pu2, mc2, mw2⟩ := L2.2
    obtain ⟨p, hp, rfl⟩ := sp_in_ix (by have := ok.2.1; omega) (b2i_n0.mp q)
    obtain ⟨e1, e2⟩ := mo_pu mc2.1.1
    exact ⟨_, rfl, fun _ => ⟨fun _ => ⟨mc2.1.1.1, _, e1, by rw [e2], by rw [e2]; exact vp_in_nI (by have := ok.2.1; omega) (by decide), hq _ _ L2.1⟩, fun _ => ⟨mc2.1.1.1, hq _ _ L2.1⟩⟩, fun q => absurd q (by decide)⟩
theorem t10_likely {x1 x2 x3 x4 : Int32} (a : tc h z DD N C) (hq : ∀ (v : Int64) h', ax_same md_F h h' → Ret (some (.long v)) h') : mX10_likely g [.ref 77, .int x1, .int x2, .int x3, .int x4] h Ret := by
  obtain ⟨a1, T1, hs1⟩ := q_code (v := 0) a.2.1 a.2.2.2.1
  refine eX10_likely ⟨a.2.1.1, ?_⟩
  intro h1
  refine c_min ⟨_, rfl, fun _ => hq _ _ hs1, fun _ => ⟨a1.1, q_hand a1 T1 a.2.2.2.2 (fun q => ⟨_, rfl, fun _ => hq _ _ hs1, fun q => absurd rfl q⟩) (fun k hk ex ok h' hs hm => ⟨_, rfl, fun q => absurd q (by decide), fun _ => ⟨hm.1.1.1.1, ?_⟩⟩)⟩⟩
  have L := lvm_hm (sm_tr hs1 hs) hm
  have b := tc_md L.1 a
  have Lu : lvm h (ax_pi h' 77 36 x2) k (DD k) := lvm_mr L (mr_f (J := fun j => j = 36) (F := fun _ => False) rfl) (fun j hj => by omega) (fun a ha => ha.elim)
  have s0 : (ax_s (ax_pi h' 77 36 x2) 77).1 = 10 := b.2.1.1
  refine c_mhasWeek b.2.1 b.2.2.2.1 b.2.2.2.2 ⟨_, rfl, fun _ => hq _ _ Lu.1, fun q => ?_⟩
  obtain ⟨w, hw, rfl⟩ := sp_in_ix (by have := a.2.2.2.2.1 1 (by decide); omega) (b2i_n0.mp q)
  refine ⟨s0, t_liveDays a ok Lu hw ai_eq (fun h2 L2 => ⟨_, rfl, fun q => absurd rfl q, fun _ => hq _ _ L2.1⟩) (fun h2 L2 b1 b2 => ?_)⟩
  obtain ⟨pu, mc, mw⟩ := L2.2
  exact ⟨_, rfl, fun _ => ⟨mc.1.1.1, mc.1.1.1, c_part b1 b2 ⟨_, rfl, hq _ _ L2.1⟩⟩, fun q => absurd q (by decide)⟩
theorem n_purse (a : IV h S Im tp) (b : 103 ≤ h.1 ∧ h.1 ≤ B) (x1 x2 x3 x4 : Int32) : prN (mX9_purse g) (mX10_purse g) [.ref 0, .int x1, .int x2, .int x3, .int x4] [.ref 77, .int x1, .int x2, .int x3, .int x4] h (inv B) := pr_n a b (fun Ret k => t9_purse (iv_tc a) k) (fun h1 Ret a1 k => t10_purse (iv_tc a1) k)
theorem n_likely (a : IV h S Im tp) (b : 103 ≤ h.1 ∧ h.1 ≤ B) (x1 x2 x3 x4 : Int32) : prM (mX9_likely g) (mX10_likely g) [.ref 0, .int x1, .int x2, .int x3, .int x4] [.ref 77, .int x1, .int x2, .int x3, .int x4] h (inv B) := pr_m a b (fun Ret k => t9_likely (iv_tc a) k) (fun h1 Ret a1 k => t10_likely (iv_tc a1) k)
/-! DRAWN, of the reference -/
def sNn (f : Nat → Nat) : Nat → Nat
  | 0 => 0
  | n + 1 => sNn f n + f n
theorem sumN_nI {W : Nat → Nat} : ∀ n, sumN (fun q => nI (W q)) n = nI (sNn W n)
  | 0 => nI_0.symm
  | n + 1 => by show sumN (fun q => nI (W q)) n + nI (W n) = nI (sNn W n + W n); rw [sumN_nI n, nI_add]
theorem sNn_one : ∀ n, sNn (fun _ => 1) n = n
  | 0 => rfl
  | n + 1 => by show sNn (fun _ => 1) n + 1 = n + 1; rw [sNn_one n]
theorem w_sum {D : rD} (ok : rd_ok D) (x : Int32) : ∃ W : Nat → Nat, (∀ q, sp_w D x q = nI (W q) ∧ W q ≤ 9) ∧ sp_t D x = nI (sNn W (dH D)) := by
  have lo : ∀ q, ∃ n, n ≤ 9 ∧ sp_lo D x (nI q) = nI n := fun q => by
    have b := sp_lo_bd ok x (nI q)
    exact ⟨(sp_lo D x (nI q)).toInt.toNat, by omega, i_inj (by rw [nI_toInt (by omega)]; omega)⟩
  by_cases e : sp_ws D x = 0
  · refine ⟨fun _ => 1, fun q => ⟨?_, by show 1 ≤ 9; decide⟩, ?_⟩
    · unfold sp_w; rw [if_pos e]; rfl
    · unfold sp_t; rw [if_pos e, sNn_one]
  · refine ⟨fun q => (lo q).choose, fun q => ⟨?_, (lo q).choose_spec.1⟩, ?_⟩
    · unfold sp_w; rw [if_neg e]; exact (lo q).choose_spec.2
    · unfold sp_t; rw [if_neg e]; unfold sp_ws
      rw [← sumN_nI]
      exact sumN_congr (fun i _ => (lo i).choose_spec.2)
theorem ush16 (x : Int32) : ∃ n, n < 65536 ∧ (x.toUInt32 >>> ((16 : Int32).toUInt32 &&& Int32.toUInt32 31)).toInt32 = nI n := by
  refine ⟨(x.toUInt32 >>> ((16 : Int32).toUInt32 &&& Int32.toUInt32 31)).toNat, ?_, ?_⟩
  · rw [UInt32.toNat_shiftRight, show ((16 : Int32).toUInt32 &&& Int32.toUInt32 31).toNat % 32 = 16 from by decide +kernel, Nat.shiftRight_eq_div_pow]
    have := UInt32.toNat_lt x.toUInt32
    omega
  · exact congrArg UInt32.toInt32 (UInt32.ofNat_toNat (x := x.toUInt32 >>> ((16 : Int32).toUInt32 &&& Int32.toUInt32 31))).symm
theorem sN_lt {W : Nat → Nat} {i H : Nat} (hi : i ≤ H) (h1 : sNn W i < sNn W H) : i < H := by
  rcases Nat.lt_or_ge i H with q | q
  · exact q
  · have : i = H := by omega
    rw [this] at h1; exact absurd h1 (Nat.lt_irrefl _)
theorem c_mdrawHour {m ρ : Nat} {D : rD} {mo pu : Nat → Int32} {vl : Nat → Nat → Int32} {x : Int32} (ok : rd_ok D) (a : mc_at h m ρ D mo pu vl) (b : mw_at h m (dH D) (sp_w D x) (sp_t D x) x) (hq : ∀ y v, y < dH D → Ret (some (.int (nI y))) (ax_pi h m 39 v)) : mX10_drawHour g [.ref m] h Ret := by
  have H12 := ok.1.2
  obtain ⟨W, hW, hT⟩ := w_sum ok x
  have tb := sp_t_bd ok x
  have τ0 : 0 < sNn W (dH D) ∧ sNn W (dH D) < 2 ^ 31 := by
    have hs : ∀ n, sNn W n ≤ 9 * n := fun n => by
      induction n with
      | zero => exact Nat.le_refl _
      | succ n ih => show sNn W n + W n ≤ 9 * (n + 1); have := (hW n).2; omega
    have s9 := hs (dH D)
    rw [hT, nI_toInt (by omega)] at tb
    omega
  have s0 := a.1.1.1
  refine uX10_drawHour (fun A hA => vX10_drawHour_0 hA ⟨s0, s0, eX10_draw ⟨s0, s0, ?_⟩⟩)
  intro u1
  refine ⟨s0, ?_⟩
  intro z2
  obtain ⟨n, hn, en⟩ := ush16 (ax_i u1 m 39)
  have ez : z2 = nI n := en
  have r1 : mr (fun j => j = 39) (fun _ => False) m h u1 := mr_f rfl
  have e1 := mo_we (mr_st r1 a.1.1)
  rw [b.2.1, hT, ez, pk_rem (by omega) τ0.1 τ0.2]
  refine ⟨nI_ne0 τ0.1 τ0.2, _, rfl, ?_⟩
  have key : ∀ k i e : Nat, i + k = dH D → e < 2 ^ 31 → e + sNn W i < sNn W (dH D) → A (11, [some (.ref m), some (.int (nI e)), some (.int (nI i))], [], u1, 0, 0) := by
    intro k
    induction k with
    | zero =>
      intro i e hi he hs
      rw [show i = dH D by omega] at hs; omega
    | succ k ih =>
      intro i e hi he hs
      have ew : ax_i u1 (m + 16) (nI i).toNatClampNeg = nI (W i) := by rw [nI_clamp (by omega), mr_e r1 (by omega) (by exact id), b.1 i (by omega), (hW i).1]
      have w9 := (hW i).2
      refine vX10_drawHour_11 hA ⟨s0, _, e1.1, by rw [e1.2], by rw [e1.2]; exact vp_in_nI (by omega) (by decide), fun q => hq i _ (by omega), fun q => ⟨s0, _, e1.1, by rw [e1.2], by rw [e1.2]; exact vp_in_nI (by omega) (by decide), ?_⟩⟩
      rw [ew, nI_ltI he (by omega)] at q
      rw [ew, ← nI_succ, show nI e - nI (W i) = nI (e - W i) from by rw [show nI e = nI (e - W i) + nI (W i) from by rw [nI_add, Nat.sub_add_cancel (by omega)], Int32.add_sub_cancel]]
      exact ih (i + 1) (e - W i) (by omega) (by omega) (by show e - W i + (sNn W i + W i) < _; omega)
  exact key (dH D) 0 (n % sNn W (dH D)) (by omega) (by have := Nat.mod_lt n τ0.1; omega) (by show _ + 0 < _; have := Nat.mod_lt n τ0.1; omega)
theorem mo_dr {h : ax_H} {m : Nat} (a : mo_st h m) : ax_r h m 40 = some (m + 17) ∧ ax_s h (m + 17) = (11, 12) := a.2 16 _ rfl
theorem t10_drawn {x1 x2 x3 x4 : Int32} (a : tc h z DD N C) (hq : ∀ (v : Int32) h', ax_same md_F h h' → Ret (some (.int v)) h') : mX10_drawn g [.ref 77, .int x1, .int x2, .int x3, .int x4] h Ret := by
  obtain ⟨a1, T1, hs1⟩ := q_code (v := 0) a.2.1 a.2.2.2.1
  refine uX10_drawn (fun A hA => vX10_drawn_0 hA ⟨a.2.1.1, ?_⟩)
  intro h1
  refine c_min ⟨_, rfl, fun _ => hq _ _ hs1, fun q60 => ⟨a1.1, q_hand a1 T1 a.2.2.2.2 (fun q => ⟨_, rfl, fun _ => hq _ _ hs1, fun q => absurd rfl q⟩) (fun k hk ex ok h' hs hm => ⟨_, rfl, fun q => absurd q (by decide), fun _ => ⟨hm.1.1.1.1, ?_⟩⟩)⟩⟩
  obtain ⟨m, _, hm60, rfl⟩ := i_rng (a := 0) (b := 60) (by omega) (by omega) (of_decide_eq_true (b2i_n0.mp q60)).1 (of_decide_eq_true (b2i_n0.mp q60)).2
  have L := lvm_hm (sm_tr hs1 hs) hm
  have H12 := ok.1.2
  have P6 := ok.2.1
  have Lu : lvm h (ax_pi h' 77 39 x2) k (DD k) := lvm_mr L (mr_f (J := fun j => j = 39) (F := fun _ => False) rfl) (fun j hj => by omega) (fun a ha => ha.elim)
  have s0 := hm.1.1.1.1
  have go : ((∃ p, p < dP (DD k) ∧ x4 = nI p) ∨ (10 ≤ x4 ∧ x4 ≤ 11) ∨ ∃ i, i < dH (DD k) ∧ x4 = nI (20 + i)) → A (76, [some (.ref 77), some (.int x1), some (.int x2), some (.int (nI m)), some (.int x4), some (.int (-1)), some (.int 0)], [], ax_pi h' 77 39 x2, 0, 0) := by
    intro hx
    have k2 : ∀ n i : Nat, i + n = m → ∀ h3, lvm h h3 k (DD k) → ∀ x5 : Int32, A (100, [some (.ref 77), some (.int x1), some (.int x2), some (.int (nI m)), some (.int x4), some (.int x5), some (.int (nI i))], [], h3, 0, 0) := by
      intro n
      induction n with
      | zero =>
        intro i hi h3 L3 x5
        obtain ⟨pu, mc, mw⟩ := L3.2
        have t0 := mc.1.1.1
        have fin : ∀ v : Int32, Ret (some (.int v)) h3 := fun v => hq v h3 L3.1
        obtain ⟨e1, e2⟩ := mo_pu mc.1.1
        obtain ⟨f1, f2⟩ := mo_dr mc.1.1
        refine vX10_drawn_100 hA ⟨fun _ => ⟨fun n10 => ⟨fun n11 => ⟨fun q => ⟨t0, _, f1, by rw [f2], ?_, fin _⟩, fun q => ⟨t0, _, e1, by rw [e2], ?_, fin _⟩⟩, fun _ => fin _⟩, fun _ => ⟨t0, fin _⟩⟩, fun q => absurd (nI_le (by omega) (by omega)) q⟩
        · rw [f2]
          rcases hx with ⟨p, hp, rfl⟩ | y | ⟨i, hi, rfl⟩
          · exact absurd q (nI_ge (a := p) (b := 10) (by omega) (by decide))
          · obtain ⟨j, j1, j2, rfl⟩ := i_rng (a := 10) (b := 11) (by decide) (by decide) y.1 y.2
            rcases (by omega : j = 10 ∨ j = 11) with rfl | rfl
            · exact absurd rfl n10
            · exact absurd rfl n11
          · rw [show nI (20 + i) - 20 = nI i from ni_sb]; exact vp_in_nI (by omega) (by decide)
        · rw [e2]
          rcases hx with ⟨p, hp, rfl⟩ | y | ⟨i, hi, rfl⟩
          · exact vp_in_nI (by omega) (by decide)
          · exact absurd y.1 q
          · exact absurd (nI_le (a := 10) (b := 20 + i) (by omega) (by omega)) q
      | succ n ih =>
        intro i hi h3 L3 x5
        obtain ⟨pu, mc, mw⟩ := L3.2
        have t0 := mc.1.1.1
        obtain ⟨f1, f2⟩ := mo_dr mc.1.1
        refine vX10_drawn_100 hA ⟨fun q => absurd q (nI_ge (by omega) (by omega)), fun _ => ⟨t0, c_mdrawHour ok mc mw (fun y v hy => ⟨_, rfl, t0, _, f1, ⟨rfl, rfl⟩, by show (ax_s h3 (77 + 17)).1 = 11; rw [f2], by show vp_in (nI y) (ax_s h3 (77 + 17)).2; rw [f2]; exact vp_in_nI (by omega) (by decide), by show (ax_s h3 (77 + 17)).1 = 11; rw [f2], by show vp_in (nI y) (ax_s h3 (77 + 17)).2; rw [f2]; exact vp_in_nI (by omega) (by decide), ?_⟩)⟩⟩
        intro u5
        have L5 : lvm h u5 k (DD k) := lvm_mr L3 (mr_tr (mr_f (J := fun j => j = 39) (F := fun a => a = 94) rfl) (mr_c rfl (by decide))) (fun j hj => by omega) (fun a ha => by omega)
        refine ⟨t0, lv_mlive L5 hy (fun h6 L6 r6 => ⟨rfl, ?_⟩)⟩
        rw [← nI_succ]; exact ih (i + 1) (by omega) h6 L6 _
    have k1 : ∀ n i : Nat, i + n = 12 → ∀ h3, lvm h h3 k (DD k) → A (76, [some (.ref 77), some (.int x1), some (.int x2), some (.int (nI m)), some (.int x4), some (.int (-1)), some (.int (nI i))], [], h3, 0, 0) := by
      intro n
      induction n with
      | zero =>
        intro i hi h3 L3
        exact vX10_drawn_76 hA ⟨fun _ => k2 m 0 (by omega) h3 L3 _, fun q => absurd (nI_le (a := 12) (b := i) (by omega) (by omega)) q⟩
      | succ n ih =>
        intro i hi h3 L3
        obtain ⟨pu, mc, mw⟩ := L3.2
        obtain ⟨f1, f2⟩ := mo_dr mc.1.1
        refine vX10_drawn_76 hA ⟨fun q => absurd q (nI_ge (a := i) (b := 12) (by omega) (by decide)), fun _ => ⟨mc.1.1.1, _, f1, by rw [f2], by rw [f2]; exact vp_in_nI (by omega) (by decide), ?_⟩⟩
        intro u5
        rw [← nI_succ]
        exact ih (i + 1) (by omega) u5 (lvm_mr L3 (mr_c (J := fun _ => False) (F := fun a => a = 94) rfl (by decide)) (fun j hj => hj.elim) (fun a ha => by omega))
    exact k1 12 0 (by decide) _ Lu
  refine c_misOne hm.1.1 ⟨_, rfl, fun q => ⟨s0, go (Or.inl ?_)⟩, fun _ => c_min ⟨_, rfl, fun q => ⟨s0, go (Or.inr (Or.inl (of_decide_eq_true (b2i_n0.mp q))))⟩, fun _ => ⟨s0, ?_⟩⟩⟩
  · exact sp_in_ix (by omega) (b2i_n0.mp q)
  · rw [hm.1.1.2.2.2.2.1, show (19 : Int32) + nI (dH (DD k)) = nI (19 + dH (DD k)) from ni_c 19 _]
    refine c_min ⟨_, rfl, fun q => ⟨s0, go (Or.inr (Or.inr ?_))⟩, fun _ => hq _ _ L.1⟩
    obtain ⟨n, n1, n2, rfl⟩ := i_rng (a := 20) (b := 19 + dH (DD k)) (by omega) (by have := ok.1.1; omega) (of_decide_eq_true (b2i_n0.mp q)).1 (of_decide_eq_true (b2i_n0.mp q)).2
    obtain ⟨i, rfl⟩ := Nat.exists_eq_add_of_le n1
    exact ⟨i, by omega, rfl⟩
theorem n_drawn (a : IV h S Im tp) (b : 103 ≤ h.1 ∧ h.1 ≤ B) (x1 x2 x3 x4 : Int32) : prN (mX9_drawn g) (mX10_drawn g) [.ref 0, .int x1, .int x2, .int x3, .int x4] [.ref 77, .int x1, .int x2, .int x3, .int x4] h (inv B) := pr_n a b (fun Ret k => t9_drawn (iv_tc a) k) (fun h1 Ret a1 k => t10_drawn (iv_tc a1) k)
end
end

section
section
variable {g : ax_G} {Ret : Option Value → ax_H → Prop} {h : ax_H} {z : Nat → Nat} {DD : Nat → rD} {N : Nat → Nat → Nat} {C : Nat → Nat → Nat → Nat → Int32} {S : sT} {Im : Nat → Option sT} {tp : Nat → Nat} {B : Nat}
/-! REIGN, of the reference -/
theorem mo_rh {h : ax_H} {m : Nat} (a : mo_st h m) : ax_r h m 54 = some (m + 23) ∧ ax_s h (m + 23) = (11, 60) := a.2 22 _ rfl
theorem mo_rt {h : ax_H} {m : Nat} (a : mo_st h m) : ax_r h m 55 = some (m + 24) ∧ ax_s h (m + 24) = (11, 6) := a.2 23 _ rfl
theorem po_ix {P : Nat} {pu : Nat → Int32} : sp_po P pu = -1 ∨ ∃ p, p < P ∧ sp_po P pu = nI p := by
  unfold sp_po
  by_cases e : P = 0
  · rw [if_pos e]; exact Or.inl rfl
  · rw [if_neg e]; exact Or.inr ⟨_, by have := poo_le pu (P - 1); omega, rfl⟩
theorem t_reignDays {hh : ax_H} {k m : Nat} (ok : rd_ok (DD k)) (hm : m ≤ 60) (L : lvm h hh k (DD k)) (h1 : ∀ (v : Int32) h2, lvm h h2 k (DD k) → Ret (some (.int v)) h2) : mX10_reignDays g [.ref 77, .int (nI m)] hh Ret := by
  have H12 := ok.1.2
  have P6 := ok.2.1
  refine uX10_reignDays (fun A hA => vX10_reignDays_0 hA ?_)
  have k2 : ∀ n i : Nat, i + n = m → ∀ h3, lvm h h3 k (DD k) → ∀ (x2 : Int32) (o4 : Option Value), A (25, [some (.ref 77), some (.int (nI m)), some (.int x2), some (.int (nI i)), o4], [], h3, 0, 0) := by
    intro n
    induction n with
    | zero =>
      intro i hi h3 L3 x2 o4
      exact vX10_reignDays_25 hA ⟨fun _ => h1 _ _ L3, fun q => absurd (nI_le (by omega) (by omega)) q⟩
    | succ n ih =>
      intro i hi h3 L3 x2 o4
      obtain ⟨pu, mc, mw⟩ := L3.2
      have t0 := mc.1.1.1
      obtain ⟨e1, e2⟩ := mo_rh mc.1.1
      obtain ⟨f1, f2⟩ := mo_rt mc.1.1
      have K : ∀ h6, lvm h h6 k (DD k) → ∀ (x2 : Int32) (o4 : Option Value), A (25, [some (.ref 77), some (.int (nI m)), some (.int x2), some (.int (nI i + 1)), o4], [], h6, 0, 0) := fun h6 L6 x2 o4 => by rw [← nI_succ]; exact ih (i + 1) (by omega) h6 L6 _ _
      have st : ∀ (y : Nat) (u : ax_H), mr (fun _ => False) (fun a => a = 100 ∨ a = 101) 77 h3 u → lvm h u k (DD k) := fun y u r => lvm_mr L3 r (fun j hj => hj.elim) (fun a ha => by omega)
      have v60 : vp_in (nI i) (ax_s h3 (77 + 23)).2 := by rw [e2]; exact vp_in_nI (by omega) (by decide)
      have s60 : (ax_s h3 (77 + 23)).1 = 11 := by rw [e2]
      refine vX10_reignDays_25 hA ⟨fun q => absurd q (nI_ge (by omega) (by omega)), fun _ => ⟨t0, t0, _, e1, fun q => ?_, fun q => ⟨s60, v60, ?_⟩⟩⟩
      · rw [mw.2.2] at q
        rcases po_ix (P := dP (DD k)) (pu := pu) with e | ⟨p, hp, e⟩
        · exact absurd e q
        · rw [mw.2.2, e]
          refine ⟨t0, c_mwishOf (by have := ok.1.1; omega) mc hp ⟨_, rfl, s60, v60, ?_⟩⟩
          have bh : bst (fun q => sp_br (dP (DD k)) (dH (DD k)) (sp_vl (DD k)) (nI p) (nI q)) (dH (DD k) - 1) < dH (DD k) := by have := bst_le (fun q => sp_br (dP (DD k)) (dH (DD k)) (sp_vl (DD k)) (nI p) (nI q)) (dH (DD k) - 1); have := ok.1.1; omega
          intro u7
          have v6 : vp_in (nI p) (ax_s h3 (77 + 24)).2 := by rw [f2]; exact vp_in_nI (by omega) (by decide)
          have s6 : (ax_s h3 (77 + 24)).1 = 11 := by rw [f2]
          refine ⟨fun q9 => absurd q9 (nI_nm1 (by omega)), fun _ => ⟨t0, _, f1, ⟨rfl, rfl⟩, s6, v6, s6, v6, ?_⟩⟩
          intro u12
          have L12 : lvm h u12 k (DD k) := st 0 u12 (mr_tr (mr_c (Or.inl rfl) (by decide)) (mr_c (Or.inr rfl) (by decide)))
          refine ⟨t0, _, e1, s60, v60, t0, ?_⟩
          have ev : ax_i u12 (77 + 23) (nI i).toNatClampNeg = nI (bst (fun q => sp_br (dP (DD k)) (dH (DD k)) (sp_vl (DD k)) (nI p) (nI q)) (dH (DD k) - 1)) := by
            show ax_i (ax_pi (ax_pi h3 100 _ _) 101 _ _) 100 _ = _
            rw [ai_pi, if_neg (by omega), ai_pi, if_pos ⟨rfl, rfl⟩]; rfl
          rw [ev]
          refine lv_mlive L12 bh (fun h6 L6 r6 => ⟨rfl, fun _ => K h6 L6 _ _, fun _ => ?_⟩)
          obtain ⟨pu6, mc6, mw6⟩ := L6.2
          exact ⟨mc6.1.1.1, fun _ => K h6 L6 _ _, fun _ => K h6 L6 _ _⟩
      · intro u16
        have L16 : lvm h u16 k (DD k) := st 0 u16 (mr_c (Or.inl rfl) (by decide))
        refine ⟨fun _ => ⟨t0, _, e1, s60, v60, t0, ?_⟩, fun q2 => absurd q q2⟩
        have ev : ax_i u16 (77 + 23) (nI i).toNatClampNeg = nI 0 := by
          show ax_i (ax_pi h3 100 _ _) 100 _ = _
          rw [ai_pi, if_pos ⟨rfl, rfl⟩]; rfl
        rw [ev]
        refine lv_mlive L16 (by have := ok.1.1; omega) (fun h6 L6 r6 => ⟨rfl, fun _ => K h6 L6 _ _, fun _ => ?_⟩)
        obtain ⟨pu6, mc6, mw6⟩ := L6.2
        exact ⟨mc6.1.1.1, fun _ => K h6 L6 _ _, fun _ => K h6 L6 _ _⟩
  have k1 : ∀ n i : Nat, i + n = 6 → ∀ h3, lvm h h3 k (DD k) → ∀ o4 : Option Value, A (4, [some (.ref 77), some (.int (nI m)), some (.int (-1)), some (.int (nI i)), o4], [], h3, 0, 0) := by
    intro n
    induction n with
    | zero =>
      intro i hi h3 L3 o4
      exact vX10_reignDays_4 hA ⟨fun _ => k2 m 0 (by omega) h3 L3 _ _, fun q => absurd (nI_le (a := 6) (b := i) (by omega) (by omega)) q⟩
    | succ n ih =>
      intro i hi h3 L3 o4
      obtain ⟨pu, mc, mw⟩ := L3.2
      obtain ⟨f1, f2⟩ := mo_rt mc.1.1
      refine vX10_reignDays_4 hA ⟨fun q => absurd q (nI_ge (a := i) (b := 6) (by omega) (by decide)), fun _ => ⟨mc.1.1.1, _, f1, by rw [f2], by rw [f2]; exact vp_in_nI (by omega) (by decide), ?_⟩⟩
      intro u5
      rw [← nI_succ]
      exact ih (i + 1) (by omega) u5 (lvm_mr L3 (mr_c (J := fun _ => False) (F := fun a => a = 101) rfl (by decide)) (fun j hj => hj.elim) (fun a ha => by omega)) _
  exact k1 6 0 (by decide) hh L _
theorem t10_reign {x1 x2 x3 : Int32} (a : tc h z DD N C) (hq : ∀ (v : Int32) h', ax_same md_F h h' → Ret (some (.int v)) h') : mX10_reign g [.ref 77, .int x1, .int x2, .int x3] h Ret := by
  obtain ⟨a1, T1, hs1⟩ := q_code (v := 0) a.2.1 a.2.2.2.1
  refine eX10_reign ⟨a.2.1.1, ?_⟩
  intro h1
  refine c_min ⟨_, rfl, fun _ => hq _ _ hs1, fun q60 => ⟨a1.1, q_hand a1 T1 a.2.2.2.2 (fun q => ⟨_, rfl, fun q => absurd rfl q, fun _ => hq _ _ hs1⟩) (fun k hk ex ok h' hs hm => ⟨_, rfl, fun _ => ⟨hm.1.1.1.1, ?_⟩, fun q => absurd q (by decide)⟩)⟩⟩
  obtain ⟨m, _, hm60, rfl⟩ := i_rng (a := 0) (b := 60) (by omega) (by omega) (of_decide_eq_true (b2i_n0.mp q60)).1 (of_decide_eq_true (b2i_n0.mp q60)).2
  have P6 := ok.2.1
  refine t_reignDays ok hm60 (lvm_hm (sm_tr hs1 hs) hm) (fun v h2 L2 => ⟨_, rfl, ?_⟩)
  obtain ⟨pu, mc, mw⟩ := L2.2
  have t0 := mc.1.1.1
  have fin : ∀ v : Int32, Ret (some (.int v)) h2 := fun v => hq v h2 L2.1
  obtain ⟨e1, e2⟩ := mo_rh mc.1.1
  obtain ⟨f1, f2⟩ := mo_rt mc.1.1
  obtain ⟨g1, g2⟩ := mo_pu mc.1.1
  rw [show (99 : Int32) + nI m = nI (99 + m) from ni_c 99 _]
  refine c_min ⟨_, rfl, fun _ => ⟨t0, ?_⟩, fun q => ⟨t0, _, e1, by rw [e2], ?_, fin _⟩⟩
  · rw [mc.1.2.2.2.2.2.1, show (19 : Int32) + nI (dP (DD k)) = nI (19 + dP (DD k)) from ni_c 19 _]
    refine c_min ⟨_, rfl, fun _ => ⟨t0, c_misOne mc.1 ⟨_, rfl, fun _ => ⟨fun _ => ⟨fun _ => fin _, fun _ => fin _⟩, fun _ => ⟨t0, fin _⟩⟩, fun q => ⟨t0, _, g1, by rw [g2], ?_, fin _⟩⟩⟩, fun q => ⟨t0, _, f1, by rw [f2], ?_, fin _⟩⟩
    · obtain ⟨p, hp, rfl⟩ := sp_in_ix (by omega) (b2i_n0.mp q)
      rw [g2]; exact vp_in_nI (by omega) (by decide)
    · have y := of_decide_eq_true (b2i_n0.mp q)
      rw [f2]
      rcases Nat.eq_zero_or_pos (dP (DD k)) with e | e
      · rw [e] at y
        have y1 := i_le.mp y.1
        have y2 := i_le.mp y.2
        rw [nI_toInt (by omega)] at y2
        change (20 : Int) ≤ _ at y1
        omega
      · obtain ⟨n, n1, n2, rfl⟩ := i_rng (a := 20) (b := 19 + dP (DD k)) (by omega) (by omega) y.1 y.2
        obtain ⟨i, rfl⟩ := Nat.exists_eq_add_of_le n1
        rw [show nI (20 + i) - 20 = nI i from ni_sb]; exact vp_in_nI (by omega) (by decide)
  · have y := of_decide_eq_true (b2i_n0.mp q)
    rw [e2]
    rcases Nat.eq_zero_or_pos m with e | e
    · rw [e] at y
      have y1 := i_le.mp y.1
      have y2 := i_le.mp y.2
      rw [nI_toInt (by omega)] at y2
      change (100 : Int) ≤ _ at y1
      omega
    · obtain ⟨n, n1, n2, rfl⟩ := i_rng (a := 100) (b := 99 + m) (by omega) (by omega) y.1 y.2
      obtain ⟨i, rfl⟩ := Nat.exists_eq_add_of_le n1
      rw [show nI (100 + i) - 100 = nI i from ni_sb]; exact vp_in_nI (by omega) (by decide)
theorem n_reign (a : IV h S Im tp) (b : 103 ≤ h.1 ∧ h.1 ≤ B) (x1 x2 x3 : Int32) : prN (mX9_reign g) (mX10_reign g) [.ref 0, .int x1, .int x2, .int x3] [.ref 77, .int x1, .int x2, .int x3] h (inv B) := pr_n a b (fun Ret k => t9_reign (iv_tc a) k) (fun h1 Ret a1 k => t10_reign (iv_tc a1) k)
end
end

section
section
variable {g : ax_G} {Ret : Option Value → ax_H → Prop} {h : ax_H} {z : Nat → Nat} {DD : Nat → rD} {N : Nat → Nat → Nat} {C : Nat → Nat → Nat → Nat → Int32} {S : sT} {Im : Nat → Option sT} {tp : Nat → Nat} {B : Nat}
/-! trains, of the class -/
def sp_tt (x s : Int32) : Int32 := if x ≤ s then x else x + 1
def sp_ld (x y n s : Int32) : Int32 := sp_tt n s - sp_tt x s - y
theorem c_trueTime {x s : Int32} (hq : Ret (some (.int (sp_tt x s))) h) : mX9_trueTime g [.int x, .int s] h Ret := by
  unfold sp_tt at hq
  exact eX9_trueTime ⟨fun q => by rw [if_pos q] at hq; exact hq, fun q => by rw [if_neg q] at hq; exact hq⟩
theorem c_lead {x y n s : Int32} (hq : Ret (some (.int (sp_ld x y n s))) h) : mX9_lead g [.int x, .int y, .int n, .int s] h Ret := eX9_lead (c_trueTime ⟨_, rfl, c_trueTime ⟨_, rfl, hq⟩⟩)
section
variable {l n : Nat} {C1 : Nat → Nat → Int32} {r : Nat} {D : rD}
theorem c_leadOf {x s : Int32} (L : li_at h l 3 n C1) (hq : ∀ v : Int32, Ret (some (.int v)) h) : mX9_leadOf g [.ref l, .int x, .int s] h Ret := eX9_leadOf ⟨L.1.1, c_lcell (by decide) (by decide) L ⟨_, rfl, L.1.1, c_lcell (by decide) (by decide) L ⟨_, rfl, L.1.1, c_lcell (by decide) (by decide) L ⟨_, rfl, c_lead ⟨_, rfl, hq _⟩⟩⟩⟩⟩
theorem c_keepsBy {s : Int32} (L : li_at h l 3 n C1) (hq : ∀ v : Int32, Ret (some (.int v)) h) : mX9_keepsBy g [.ref l, .int s] h Ret := by
  have n8 : n ≤ 8 := L.2.1
  refine uX9_keepsBy (fun A hA => vX9_keepsBy_0 hA ?_)
  have key : ∀ k i : Nat, n ≤ i + 1 + k → i ≤ 8 → A (2, [some (.ref l), some (.int s), some (.int (nI i))], [], h, 0, 0) := by
    intro k
    induction k with
    | zero =>
      intro i hi i8
      refine vX9_keepsBy_2 hA ⟨L.1.1, fun _ => ⟨Or.inr rfl, hq _⟩, fun q => ?_⟩
      rw [L.2.2.1, ← nI_succ] at q; exact absurd (nI_le (by omega) (by omega)) q
    | succ k ih =>
      intro i hi i8
      refine vX9_keepsBy_2 hA ⟨L.1.1, fun _ => ⟨Or.inr rfl, hq _⟩, fun q => c_leadOf L (fun v => ⟨_, rfl, fun _ => ?_, fun _ => ⟨Or.inl rfl, hq _⟩⟩)⟩
      rw [L.2.2.1, ← nI_succ, nI_leI (by omega) (by omega)] at q
      rw [← nI_succ]; exact ih (i + 1) (by omega) (by omega)
  exact key 8 0 (by omega) (by omega)
theorem c_slackOf {x : Int32} (rc : rc_at h r D) (L : li_at h l 3 n C1) (hq : ∀ v : Int32, Ret (some (.int v)) h) : mX9_slackOf g [.ref r, .ref l, .int x] h Ret := by
  have H12 := rc.2.1.1
  refine uX9_slackOf (fun A hA => vX9_slackOf_0 hA ?_)
  have key : ∀ k i : Nat, i + k = dH D → ∀ x3 : Int32, A (7, [some (.ref r), some (.ref l), some (.int x), some (.int x3), some (.int (nI i))], [], h, 0, 0) := by
    intro k
    induction k with
    | zero =>
      intro i hi x3
      refine vX9_slackOf_7 hA ⟨rc.1.1, fun _ => hq _, fun q => ?_⟩
      rw [rc.2.2.1.1] at q; exact absurd (nI_le (by omega) (by omega)) q
    | succ k ih =>
      intro i hi x3
      refine vX9_slackOf_7 hA ⟨rc.1.1, fun q => ?_, fun _ => c_leadOf L (fun v => ⟨_, rfl, ?_⟩)⟩
      · rw [rc.2.2.1.1] at q; exact absurd q (nI_ge (by omega) (by omega))
      · rw [← nI_succ]; exact ih (i + 1) (by omega) _
  exact key (dH D) 0 (by omega) _
theorem c_leastNext {u w : Nat} (rc : rc_at h r D) (hu : u ≤ 200) (hw : w ≤ 9) (hq : ∀ v, v ≤ u + w → Ret (some (.int (nI v))) h) : mX9_leastNext g [.ref r, .int (nI u), .int (nI w)] h Ret := by
  have H12 := rc.2.1.1
  have e : nI u + nI w = nI (u + w) := nI_add u w
  refine uX9_leastNext (fun A hA => vX9_leastNext_0 hA ?_)
  have key : ∀ k i : Nat, i + k = u + w → ∀ o4 o5 : Option Value, A (2, [some (.ref r), some (.int (nI u)), some (.int (nI w)), some (.int (nI i)), o4, o5], [], h, 0, 0) := by
    intro k
    induction k with
    | zero =>
      intro i hi o4 o5
      refine vX9_leastNext_2 hA ⟨fun _ => ?_, fun q => ?_⟩
      · rw [e]; exact hq _ (Nat.le_refl _)
      · rw [e] at q; exact absurd (nI_le (by omega) (by omega)) q
    | succ k ih =>
      intro i hi o4 o5
      have inn : ∀ m j : Nat, j + m = dH D → ∀ x4 : Int32, A (15, [some (.ref r), some (.int (nI u)), some (.int (nI w)), some (.int (nI i)), some (.int x4), some (.int (nI j))], [], h, 0, 0) := by
        intro m
        induction m with
        | zero =>
          intro j hj x4
          refine vX9_leastNext_15 hA ⟨rc.1.1, fun _ => ⟨fun _ => ?_, fun _ => hq i (by omega)⟩, fun q => ?_⟩
          · rw [← nI_succ]; exact ih (i + 1) (by omega) _ _
          · rw [rc.2.2.1.1] at q; exact absurd (nI_le (by omega) (by omega)) q
        | succ m ihm =>
          intro j hj x4
          refine vX9_leastNext_15 hA ⟨rc.1.1, fun q => ?_, fun _ => ⟨fun _ => ?_, fun _ => c_lead ⟨_, rfl, fun _ => ?_, fun _ => ?_⟩⟩⟩
          · rw [rc.2.2.1.1] at q; exact absurd q (nI_ge (by omega) (by omega))
          all_goals (rw [← nI_succ]; exact ihm (j + 1) (by omega) _)
      refine vX9_leastNext_2 hA ⟨fun q => ?_, fun _ => inn (dH D) 0 (by omega) _⟩
      rw [e] at q; exact absurd q (nI_ge (by omega) (by omega))
  exact key w u (by omega) _ _
theorem c_leastHour {k : Nat} (rc : rc_at h r D) (L : li_at h l 3 n C1) (ok : ln_ok 3 n C1) (hk : k < n) (hq : ∀ v : Int32, Ret (some (.int v)) h) : mX9_leastHour g [.ref r, .ref l, .int (nI k)] h Ret := by
  have n8 : n ≤ 8 := L.2.1
  obtain ⟨a0, b0, ha, hb1, hb, ea, eb⟩ := ok.2 0 (by omega)
  refine uX9_leastHour (fun A hA => vX9_leastHour_0 hA ⟨L.1.1, c_lcell (by decide) (by decide) L ⟨_, rfl, ?_⟩⟩)
  rw [show sp_lc n (lw 3) C1 0 0 = C1 0 0 from lc_in (i := 0) (j := 0) (by omega) (by decide) (by omega) (by decide), ea]
  have key : ∀ m i : Nat, i + m = k → ∀ u, u ≤ 12 + 9 * i → A (10, [some (.ref r), some (.ref l), some (.int (nI k)), some (.int (nI u)), some (.int (nI i))], [], h, 0, 0) := by
    intro m
    induction m with
    | zero =>
      intro i hi u hu
      exact vX9_leastHour_10 hA ⟨fun _ => hq _, fun q => absurd (nI_le (by omega) (by omega)) q⟩
    | succ m ih =>
      intro i hi u hu
      obtain ⟨a1, b1, ha1, hb11, hb1', ea1, eb1⟩ := ok.2 i (by omega)
      refine vX9_leastHour_10 hA ⟨fun q => absurd q (nI_ge (by omega) (by omega)), fun _ => ⟨L.1.1, c_lcell (by decide) (by decide) L ⟨_, rfl, ?_⟩⟩⟩
      rw [show sp_lc n (lw 3) C1 (nI i) 1 = C1 i 1 from lc_in (j := 1) (by omega) (by decide) (by omega) (by decide), eb1]
      refine c_leastNext rc (by omega) (by omega) (fun v hv => ⟨_, rfl, ?_⟩)
      rw [← nI_succ]; exact ih (i + 1) (by omega) v (by omega)
  exact key k 0 (by omega) a0 (by omega)
end
/-! HOLDS, CLOCK, TRUST, TIGHT, of the class -/
theorem t9_holds {x1 x2 x3 : Int32} (a : tc h z DD N C) (hq : ∀ (v : Int32) h', ax_same cl_F h h' → Ret (some (.int v)) h') : mX9_holds g [.ref 0, .int x1, .int x2, .int x3] h Ret := by
  have fin : ∀ v : Int32, Ret (some (.int v)) h := fun v => hq v h sm_rf
  refine uX9_holds (fun A hA => vX9_holds_0 hA ⟨a.1.1, _, a.1.2.1.1, a.2.2.1.1.1, c_republicAt a.2.2.1 (fun q => Or.inr ⟨rfl, a.1.1, _, a.1.2.1.1, a.2.2.1.1.1, c_linesAt (s0 := 3) a.2.2.1 (by decide) (by decide) (fun _ => Or.inr ⟨rfl, fin _⟩) (fun k hk ex => Or.inl ⟨_, rfl, fin _⟩)⟩) (fun k hk ex => Or.inl ⟨_, rfl, a.1.1, _, a.1.2.1.1, a.2.2.1.1.1, c_linesAt (s0 := 3) a.2.2.1 (by decide) (by decide) (fun _ => Or.inr ⟨rfl, fin _⟩) (fun w hw ew => Or.inl ⟨_, rfl, ?_⟩)⟩)⟩)
  have rc := a.2.2.1.2.2.1 k hk
  have L := a.2.2.1.2.2.2 3 w (by decide) (by decide) hw
  have n8 : N 3 w ≤ 8 := L.2.1
  have key : ∀ m i : Nat, N 3 w ≤ i + 1 + m → i ≤ 8 → ∀ x6 : Int32, A (77, [some (.ref 0), some (.int x1), some (.int x2), some (.int x3), some (.ref (1 + 5 + 14 * k)), some (.ref (lnp 1 3 w)), some (.int x6), some (.int (nI i))], [], h, 0, 0) := by
    intro m
    induction m with
    | zero =>
      intro i hi i8 x6
      refine vX9_holds_77 hA ⟨L.1.1, fun _ => fin _, fun q => ?_⟩
      rw [L.2.2.1, ← nI_succ] at q; exact absurd (nI_le (by omega) (by omega)) q
    | succ m ih =>
      intro i hi i8 x6
      refine vX9_holds_77 hA ⟨L.1.1, fun _ => fin _, fun q => c_slackOf rc L (fun v => ⟨_, rfl, ?_⟩)⟩
      rw [L.2.2.1, ← nI_succ, nI_leI (by omega) (by omega)] at q
      rw [← nI_succ]; exact ih (i + 1) (by omega) (by omega) _
  exact ⟨fun e => ⟨fun _ => key 8 0 (by omega) (by omega) _, fun q => absurd e q⟩, fun e => ⟨rc.1.1, c_hasHour rc ⟨_, rfl, fun _ => ⟨fun q => absurd q e, fun _ => c_keepsBy L (fun v => ⟨_, rfl, fun _ => fin _, fun _ => fin _⟩)⟩, fun _ => fin _⟩⟩⟩
theorem t9_tight {x1 x2 : Int32} (a : tc h z DD N C) (hq : ∀ (v : Int32) h', ax_same cl_F h h' → Ret (some (.int v)) h') : mX9_tight g [.ref 0, .int x1, .int x2] h Ret := by
  have fin : ∀ v : Int32, Ret (some (.int v)) h := fun v => hq v h sm_rf
  refine uX9_tight (fun A hA => vX9_tight_0 hA ⟨a.1.1, _, a.1.2.1.1, a.2.2.1.1.1, c_republicAt a.2.2.1 (fun q => Or.inr ⟨rfl, a.1.1, _, a.1.2.1.1, a.2.2.1.1.1, c_linesAt (s0 := 3) a.2.2.1 (by decide) (by decide) (fun _ => Or.inr ⟨rfl, fin _⟩) (fun k hk ex => Or.inl ⟨_, rfl, fin _⟩)⟩) (fun k hk ex => Or.inl ⟨_, rfl, a.1.1, _, a.1.2.1.1, a.2.2.1.1.1, c_linesAt (s0 := 3) a.2.2.1 (by decide) (by decide) (fun _ => Or.inr ⟨rfl, fin _⟩) (fun w hw ew => Or.inl ⟨_, rfl, ?_⟩)⟩)⟩)
  have rc := a.2.2.1.2.2.1 k hk
  have L := a.2.2.1.2.2.2 3 w (by decide) (by decide) hw
  have n8 : N 3 w ≤ 8 := L.2.1
  have key : ∀ m i : Nat, N 3 w ≤ i + 1 + m → i ≤ 9 → ∀ x5 : Int32, A (46, [some (.ref 0), some (.int x1), some (.int x2), some (.ref (1 + 5 + 14 * k)), some (.ref (lnp 1 3 w)), some (.int x5), some (.int (nI i))], [], h, 0, 0) := by
    intro m
    induction m with
    | zero =>
      intro i hi i8 x6
      refine vX9_tight_46 hA ⟨L.1.1, fun _ => fin _, fun q => ?_⟩
      rw [L.2.2.1, ← nI_succ] at q; exact absurd (nI_le (by omega) (by omega)) q
    | succ m ih =>
      intro i hi i8 x6
      refine vX9_tight_46 hA ⟨L.1.1, fun _ => fin _, fun q => c_slackOf rc L (fun v => ⟨_, rfl, c_slackOf rc L (fun v2 => ⟨_, rfl, fun _ => ?_, fun _ => ?_⟩)⟩)⟩
      all_goals
        rw [L.2.2.1, ← nI_succ, nI_leI (by omega) (by omega)] at q
        rw [← nI_succ]; exact ih (i + 1) (by omega) (by omega) _
  exact ⟨L.1.1, fun _ => key 8 1 (by omega) (by omega) _, fun _ => fin _⟩
theorem t9_clock {x1 x2 x3 x4 : Int32} (a : tc h z DD N C) (hq : ∀ (v : Int32) h', ax_same cl_F h h' → Ret (some (.int v)) h') : mX9_clock g [.ref 0, .int x1, .int x2, .int x3, .int x4] h Ret := by
  have fin : ∀ v : Int32, Ret (some (.int v)) h := fun v => hq v h sm_rf
  refine eX9_clock ⟨a.1.1, _, a.1.2.1.1, a.2.2.1.1.1, c_republicAt a.2.2.1 (fun q => Or.inr ⟨rfl, a.1.1, _, a.1.2.1.1, a.2.2.1.1.1, c_linesAt (s0 := 3) a.2.2.1 (by decide) (by decide) (fun _ => Or.inr ⟨rfl, fin _⟩) (fun k hk ex => Or.inl ⟨_, rfl, fin _⟩)⟩) (fun k hk ex => Or.inl ⟨_, rfl, a.1.1, _, a.1.2.1.1, a.2.2.1.1.1, c_linesAt (s0 := 3) a.2.2.1 (by decide) (by decide) (fun _ => Or.inr ⟨rfl, fin _⟩) (fun w hw ew => Or.inl ⟨_, rfl, ?_⟩)⟩)⟩
  have rc := a.2.2.1.2.2.1 k hk
  have L := a.2.2.1.2.2.2 3 w (by decide) (by decide) hw
  have lo := a.2.2.2.2.2.2 3 w (by decide) (by decide) hw
  have n8 : N 3 w ≤ 8 := L.2.1
  refine ⟨L.1.1, c_lhas L ⟨_, rfl, fun q => ?_, fun _ => fin _⟩⟩
  obtain ⟨j, hj, rfl⟩ := sp_in_ix (by omega) (b2i_n0.mp q)
  refine ⟨fun _ => c_leastHour rc L lo hj (fun v => ⟨_, rfl, fin _⟩), fun _ => ⟨fun _ => ⟨rc.1.1, c_hasHour rc ⟨_, rfl, fun _ => ⟨L.1.1, c_lcell (by decide) (by decide) L ⟨_, rfl, c_trueTime ⟨_, rfl, L.1.1, c_lcell (by decide) (by decide) L ⟨_, rfl, fun _ => fin _, fun _ => fin _⟩⟩⟩⟩, fun _ => fin _⟩⟩, fun _ => c_leastHour rc L lo hj (fun v => ⟨_, rfl, fin _⟩)⟩⟩
theorem t9_trust {x1 x2 x3 : Int32} (a : tc h z DD N C) (hq : ∀ (v : Int32) h', ax_same cl_F h h' → Ret (some (.int v)) h') : mX9_trust g [.ref 0, .int x1, .int x2, .int x3] h Ret := by
  refine uX9_trust (fun A hA => vX9_trust_0 hA ⟨a.1.1, q_begun a (fun q => Or.inr ⟨rfl, a.1.1, _, a.1.2.1.1, a.2.2.1.1.1, c_linesAt (s0 := 3) a.2.2.1 (by decide) (by decide) (fun _ => Or.inr ⟨rfl, hq _ h sm_rf⟩) (fun k hk ex => Or.inl ⟨_, rfl, hq _ h sm_rf⟩)⟩) (fun k hk ex ok h' hs xs hc => Or.inl ⟨_, rfl, ?_⟩)⟩)
  have b := tc_cl hs a
  have fin : ∀ v : Int32, Ret (some (.int v)) h' := fun v => hq v h' hs
  refine ⟨b.1.1, _, b.1.2.1.1, b.2.2.1.1.1, c_linesAt (s0 := 3) b.2.2.1 (by decide) (by decide) (fun _ => Or.inr ⟨rfl, fin _⟩) (fun w hw ew => Or.inl ⟨_, rfl, ?_⟩)⟩
  have L := b.2.2.1.2.2.2 3 w (by decide) (by decide) hw
  have H12 := ok.1.2
  have od := hc.2.2
  have key : ∀ m i : Nat, i + m = dH (DD k) → ∀ x6 : Int64, 0 ≤ x6.toInt → x6.toInt ≤ 9 * i → A (36, [some (.ref 0), some (.int x1), some (.int x2), some (.int x3), some (.ref (6 + 14 * k)), some (.ref (lnp 1 3 w)), some (.long x6), none, some (.int (nI i))], [], h', 0, 0) := by
    intro m
    induction m with
    | zero =>
      intro i hi x6 b1 b2
      refine vX9_trust_36 hA ⟨hc.1.1.1, fun _ => ⟨xs.1, _, xs.2.1.2.2.2.2.1, od.1.1, ?_⟩, fun q => ?_⟩
      · rw [od.2.2.2.1]; exact c_side (by omega) (t_pos ok) ⟨_, rfl, fin _⟩
      · rw [hc.1.2.2.1.1] at q; exact absurd (nI_le (by omega) (by omega)) q
    | succ m ih =>
      intro i hi x6 b1 b2
      refine vX9_trust_36 hA ⟨hc.1.1.1, fun q => ?_, fun q => c_keepsBy L (fun v => ⟨_, rfl, fun _ => ?_, fun _ => ⟨xs.1, _, xs.2.1.2.2.2.2.1, od.1.1, _, od.1.2.1, by rw [od.1.2.2], by rw [od.1.2.2]; exact vp_in_nI (by omega) (by decide), ?_⟩⟩)⟩
      · rw [hc.1.2.2.1.1] at q; exact absurd q (nI_ge (by omega) (by omega))
      · rw [← nI_succ, Int64.add_zero]; exact ih (i + 1) (by omega) x6 b1 (by omega)
      · rw [nI_clamp (by omega), od.2.2.2.2 i (by omega), ← nI_succ]
        have bw := sp_w_bd ok (rul (DD k)) i
        have ea : (x6 + (sp_w (DD k) (rul (DD k)) i).toInt64).toInt = x6.toInt + (sp_w (DD k) (rul (DD k)) i).toInt := by rw [i64_add (by rw [i_64]; omega) (by rw [i_64]; omega), i_64]
        exact ih (i + 1) (by omega) _ (by rw [ea]; omega) (by rw [ea]; omega)
  exact key (dH (DD k)) 0 (by omega) 0 (by decide) (by decide)
end
end

section
section
variable {g : ax_G} {Ret : Option Value → ax_H → Prop} {h : ax_H} {z : Nat → Nat} {DD : Nat → rD} {N : Nat → Nat → Nat} {C : Nat → Nat → Nat → Nat → Int32} {S : sT} {Im : Nat → Option sT} {tp : Nat → Nat} {B : Nat}
/-! trains, of the reference -/
theorem q_handR {x : Int32} (a : mo_st h 77) (T : tm_at h 77 0 z DD N C) (K : tk z DD N C) (h0 : sp_in x (z 0) = false → Ret (some (.int 0)) h) (h1 : ∀ k, k < z 0 → x = nI k → rd_ok (DD k) → ∀ h', mr hd_J (hd_F 77) 77 h h' → hm_at h' k (DD k) → Ret (some (.int 1)) h') : mX10_hand g [.ref 77, .int x] h Ret := by
  refine c_mhand (n := z 0) (DD := DD) a (K.1 0 (by decide)) (T.1 0 (by decide)) (fun ρ hρ => ⟨by have := T.2.1 ρ hρ; rwa [Nat.mul_zero, Nat.zero_add] at this, rd_de_of (K.2.1 ρ hρ)⟩) h0 (fun ρ hρ ex h' hs c w => ?_)
  have ok := K.2.1 ρ hρ
  refine h1 ρ hρ ex ok h' hs ⟨⟨c.1, c.2.1, c.2.2.1, fun p q hp hq => ?_⟩, w⟩
  rw [c.2.2.2 p q hp hq]
  exact vb_vl (rd_de_of ok) hp hq ok.1.2 ok.2.1 ok.2.2.2.1
theorem hd_md {h' : ax_H} (s : mr hd_J (hd_F 77) 77 h h') : ax_same md_F h h' := sm_mono s.1 (fun x e => by unfold hd_F at e; unfold md_F; omega)
/-- a table and a republic in hand -/
def tbm (h hh : ax_H) (k : Nat) (D : rD) (w : Nat) : Prop := lvm h hh k D ∧ ax_i hh 77 47 = nI w
theorem c_trueAt {x s : Int32} (hq : Ret (some (.int (sp_tt x s))) h) : mX10_trueAt g [.int x, .int s] h Ret := by
  unfold sp_tt at hq
  exact eX10_trueAt ⟨fun q => by rw [if_pos q] at hq; exact hq, fun q => by rw [if_neg q] at hq; exact hq⟩
theorem c_lesser {x y : Int32} (hq : ∀ v : Int32, Ret (some (.int v)) h) : mX10_lesser g [.int x, .int y] h Ret := eX10_lesser ⟨fun _ => hq _, fun _ => hq _⟩
section
variable {hh : ax_H} {k w : Nat}
theorem c_mslackBy {x : Int32} (a : tc h z DD N C) (T : tbm h hh k (DD k) w) (hw : w < z 3) (hq : ∀ v : Int32, Ret (some (.int v)) hh) : mX10_slackBy g [.ref 77, .int x] hh Ret := by
  have c := tc_md T.1.1 a
  have n8 : N 3 w ≤ 8 := (a.2.2.2.2.2.2 3 w (by decide) (by decide) hw).1
  have s0 := c.2.1.1
  refine uX10_slackBy (fun A hA => vX10_slackBy_0 hA ?_)
  have key : ∀ m i : Nat, N 3 w ≤ i + 1 + m → i ≤ 8 → ∀ x2 : Int32, A (6, [some (.ref 77), some (.int x), some (.int x2), some (.int (nI i))], [], hh, 0, 0) := by
    intro m
    induction m with
    | zero =>
      intro i hi i8 x2
      refine vX10_slackBy_6 hA ⟨s0, c_mtrains c.2.1 c.2.2.2.1 c.2.2.2.2 hw T.2 ⟨_, rfl, fun _ => hq _, fun q => ?_⟩⟩
      rw [← nI_succ] at q; exact absurd (nI_le (by omega) (by omega)) q
    | succ m ih =>
      intro i hi i8 x2
      refine vX10_slackBy_6 hA ⟨s0, c_mtrains c.2.1 c.2.2.2.1 c.2.2.2.2 hw T.2 ⟨_, rfl, fun _ => hq _, fun q => ⟨s0, ?_⟩⟩⟩
      rw [← nI_succ, nI_leI (by omega) (by omega)] at q
      rw [← nI_succ]
      refine c_mtrainOf (j := 0) c.2.1 c.2.2.2.1 c.2.2.2.2 hw T.2 (by omega) (by decide) ⟨_, rfl, c_trueAt ⟨_, rfl, s0, c_mtrainOf (j := 0) c.2.1 c.2.2.2.1 c.2.2.2.2 hw T.2 (by omega) (by decide) ⟨_, rfl, c_trueAt ⟨_, rfl, s0, c_mtrainOf (j := 1) c.2.1 c.2.2.2.1 c.2.2.2.2 hw T.2 (by omega) (by decide) ⟨_, rfl, c_lesser (fun v => ⟨_, rfl, ?_⟩)⟩⟩⟩⟩⟩
      exact ih (i + 1) (by omega) (by omega) _
  exact key 8 0 (by omega) (by omega) _
theorem tt_nI {u i : Nat} (hu : u < 1000) (hi : i < 1000) : sp_tt (nI u) (nI i) = nI (if u ≤ i then u else u + 1) := by
  unfold sp_tt
  by_cases e : u ≤ i
  · rw [if_pos (nI_le e (by omega)), if_pos e]
  · rw [if_neg (fun q => e ((nI_leI (by omega) (by omega)).mp q)), if_neg e, ← nI_succ]
theorem c_mcanLeave {u e r : Nat} {ρ m : Nat} {D : rD} {mo : Nat → Int32} (mb : mb_at hh m ρ D mo) (hu : u < 900) (he : e < 900) (hr : r < 90) (h1 : Ret (some (.int 1)) hh) (h0 : u ≠ e + r → Ret (some (.int 0)) hh) : mX10_canLeave g [.ref m, .int (nI u), .int (nI e), .int (nI r)] hh Ret := by
  have H12 := mb.2.2.1.1.1
  refine uX10_canLeave (fun A hA => vX10_canLeave_0 hA ?_)
  have key : ∀ n i : Nat, i + n = dH D → A (3, [some (.ref m), some (.int (nI u)), some (.int (nI e)), some (.int (nI r)), some (.int (nI i))], [], hh, 0, 0) := by
    intro n
    induction n with
    | zero =>
      intro i hi
      refine vX10_canLeave_3 hA ⟨mb.1.1, fun _ => ⟨Or.inr rfl, h1⟩, fun q => ?_⟩
      rw [mb.2.2.2.2.1] at q; exact absurd (nI_le (by omega) (by omega)) q
    | succ n ih =>
      intro i hi
      refine vX10_canLeave_3 hA ⟨mb.1.1, fun q => ?_, fun _ => c_trueAt ⟨_, rfl, c_trueAt ⟨_, rfl, fun _ => ?_, fun q => ⟨Or.inl rfl, h0 (fun eu => q ?_)⟩⟩⟩⟩
      · rw [mb.2.2.2.2.1] at q; exact absurd q (nI_ge (by omega) (by omega))
      · rw [← nI_succ]; exact ih (i + 1) (by omega)
      · rw [tt_nI (by omega) (by omega), tt_nI (by omega) (by omega), nI_add]
        refine nI_le ?_ (by split <;> omega)
        split <;> split <;> omega
  exact key (dH D) 0 (by omega)
theorem mo_ea {h : ax_H} {m : Nat} (a : mo_st h m) : ax_r h m 48 = some (m + 20) ∧ ax_s h (m + 20) = (11, 8) := a.2 19 _ rfl
theorem tbm_97 {j : Nat} {v : Int32} {D : rD} (T : tbm h hh k D w) : tbm h (ax_pi hh 97 j v) k D w := ⟨lvm_mr T.1 (mr_c (J := fun _ => False) (F := fun a => a = 97) rfl (by decide)) (fun j hj => hj.elim) (fun a ha => by omega), by rw [ai_pi, if_neg (by omega)]; exact T.2⟩
theorem c_findEarliest (a : tc h z DD N C) (ok : rd_ok (DD k)) (T : tbm h hh k (DD k) w) (hw : w < z 3) (hn : 0 < N 3 w) (hq : ∀ h2, tbm h h2 k (DD k) w → Ret none h2) : mX10_findEarliest g [.ref 77] hh Ret := by
  have c := tc_md T.1.1 a
  have lo := a.2.2.2.2.2.2 3 w (by decide) (by decide) hw
  have n8 : N 3 w ≤ 8 := lo.1
  have s0 := c.2.1.1
  obtain ⟨e1, e2⟩ := mo_ea c.2.1
  refine uX10_findEarliest (fun A hA => vX10_findEarliest_0 hA ⟨s0, _, e1, s0, c_mtrainOf (i := 0) (j := 0) c.2.1 c.2.2.2.1 c.2.2.2.2 hw T.2 hn (by decide) ⟨_, rfl, by rw [e2], by rw [e2]; exact vp_in_nI (n := 0) (by decide) (by decide), ?_⟩⟩)
  intro u5
  have key : ∀ m j : Nat, j + 1 + m = N 3 w → ∀ h3, tbm h h3 k (DD k) w → ∀ e, e ≤ 12 + 9 * j → ax_i h3 97 j = nI e → ∀ o2 : Option Value, A (14, [some (.ref 77), some (.int (nI (j + 1))), o2], [], h3, 0, 0) := by
    intro m
    induction m with
    | zero =>
      intro j hj h3 T3 e he ee o2
      have c := tc_md T3.1.1 a
      exact vX10_findEarliest_14 hA ⟨c.2.1.1, c_mtrains c.2.1 c.2.2.2.1 c.2.2.2.2 hw T3.2 ⟨_, rfl, fun _ => hq h3 T3, fun q => absurd (nI_le (by omega) (by omega)) q⟩⟩
    | succ m ih =>
      intro j hj h3 T3 e he ee o2
      have c := tc_md T3.1.1 a
      obtain ⟨pu, mc, mw⟩ := T3.1.2
      have s0 := c.2.1.1
      obtain ⟨e1, e2⟩ := mo_ea c.2.1
      obtain ⟨a1, b1, ha1, hb11, hb1, ea1, eb1⟩ := lo.2 j (by omega)
      have inn : ∀ f u : Nat, u + f = e + b1 → A (24, [some (.ref 77), some (.int (nI (j + 1))), some (.int (nI u))], [], h3, 0, 0) := by
        intro f
        induction f with
        | zero =>
          intro u hu
          refine vX10_findEarliest_24 hA ⟨s0, _, e1, by rw [e2], by rw [e2, nI_pred]; exact vp_in_nI (by omega) (by decide), s0, ?_⟩
          rw [nI_pred, nI_clamp (by omega)]
          refine c_mtrainOf (j := 1) c.2.1 c.2.2.2.1 c.2.2.2.2 hw T3.2 (by omega) (by decide) ⟨_, rfl, s0, ?_⟩
          rw [show ax_i h3 (77 + 20) j = nI e from ee, eb1]
          refine c_mcanLeave mc.1 (by omega) (by omega) (by omega) ⟨_, rfl, fun _ => ⟨s0, _, e1, by rw [e2], by rw [e2]; exact vp_in_nI (by omega) (by decide), ?_⟩, fun q => absurd q (by decide)⟩ (fun q => absurd hu q)
          intro u17
          rw [← nI_succ]
          refine ih (j + 1) (by omega) u17 (tbm_97 T3) u (by omega) ?_ _
          show ax_i (ax_pi h3 97 (nI (j + 1)).toNatClampNeg (nI u)) 97 (j + 1) = nI u
          rw [nI_clamp (by omega), ai_pi, if_pos ⟨rfl, rfl⟩]
        | succ f ihf =>
          intro u hu
          refine vX10_findEarliest_24 hA ⟨s0, _, e1, by rw [e2], by rw [e2, nI_pred]; exact vp_in_nI (by omega) (by decide), s0, ?_⟩
          rw [nI_pred, nI_clamp (by omega)]
          refine c_mtrainOf (j := 1) c.2.1 c.2.2.2.1 c.2.2.2.2 hw T3.2 (by omega) (by decide) ⟨_, rfl, s0, ?_⟩
          rw [show ax_i h3 (77 + 20) j = nI e from ee, eb1]
          refine c_mcanLeave mc.1 (by omega) (by omega) (by omega) ⟨_, rfl, fun _ => ⟨s0, _, e1, by rw [e2], by rw [e2]; exact vp_in_nI (by omega) (by decide), ?_⟩, fun q => absurd q (by decide)⟩ (fun _ => ⟨_, rfl, fun q => absurd rfl q, fun _ => ?_⟩)
          · intro u17
            rw [← nI_succ]
            refine ih (j + 1) (by omega) u17 (tbm_97 T3) u (by omega) ?_ _
            show ax_i (ax_pi h3 97 (nI (j + 1)).toNatClampNeg (nI u)) 97 (j + 1) = nI u
            rw [nI_clamp (by omega), ai_pi, if_pos ⟨rfl, rfl⟩]
          · rw [← nI_succ]; exact ihf (u + 1) (by omega)
      exact vX10_findEarliest_14 hA ⟨s0, c_mtrains c.2.1 c.2.2.2.1 c.2.2.2.2 hw T3.2 ⟨_, rfl, fun q => absurd q (nI_ge (by omega) (by omega)), fun _ => inn (e + b1) 0 (by omega)⟩⟩
  obtain ⟨a0, b0, ha0, hb0, hb1, ea0, eb0⟩ := lo.2 0 hn
  exact key (N 3 w - 1) 0 (by omega) u5 (tbm_97 T) a0 (by omega) (by show ax_i (ax_pi hh 97 0 (C 3 w 0 0)) 97 0 = nI a0; rw [ai_pi, if_pos ⟨rfl, rfl⟩, ea0]) _
end
theorem q_tab {x1 x2 d : Int32} {P : Int32 → ax_H → Prop} (a : tc h z DD N C) (hq : ∀ (v : Int32) h', ax_same md_F h h' → Ret (some (.int v)) h') (h1 : ∀ k w h', k < z 0 → w < z 3 → rd_ok (DD k) → tbm h h' k (DD k) w → P 1 h') (h0 : ∀ h', ax_same md_F h h' → P 0 h') : mX10_hasTable g [.ref 77, .int x2] (ax_pi h 77 0 0) (fun v3 h2 => ∃ r4 : Int32, v3 = some (.int r4) ∧ ((r4 = 0 → Ret (some (.int d)) h2) ∧ (¬ (r4 = 0) → ((ax_s h2 77).1 = 10 ∧ mX10_hand g [.ref 77, .int x1] h2 (fun v6 h5 => ∃ r7 : Int32, v6 = some (.int r7) ∧ P r7 h5))))) := by
  obtain ⟨a1, T1, hs1⟩ := q_code (v := 0) a.2.1 a.2.2.2.1
  obtain ⟨a2, T2, hs2⟩ := mf_keep (k := 47) (v := x2) a1 T1
  refine c_mhasTable a1 T1 a.2.2.2.2 ⟨_, rfl, fun _ => hq _ _ (sm_tr hs1 hs2), fun q => ⟨a2.1, q_handR a2 T2 a.2.2.2.2 (fun _ => ⟨_, rfl, h0 _ (sm_tr hs1 hs2)⟩) (fun k hk ex ok h' hs hm => ⟨_, rfl, ?_⟩)⟩⟩
  obtain ⟨w, hw, rfl⟩ := sp_in_ix (by have := a.2.2.2.2.1 3 (by decide); omega) (b2i_n0.mp q)
  exact h1 k w h' hk hw ok ⟨lvm_hm (sm_tr hs1 (sm_tr hs2 (hd_md hs))) hm, by rw [(hs.2 47 (by unfold hd_J; decide)).1]; exact ai_eq⟩
theorem t10_holds {x1 x2 x3 : Int32} (a : tc h z DD N C) (hq : ∀ (v : Int32) h', ax_same md_F h h' → Ret (some (.int v)) h') : mX10_holds g [.ref 77, .int x1, .int x2, .int x3] h Ret := by
  refine uX10_holds (fun A hA => vX10_holds_0 hA ⟨a.2.1.1, ?_⟩)
  intro u1
  refine ⟨a.2.1.1, q_tab a hq (fun k w h' hk hw ok T => ?_) (fun h' s => ⟨fun _ => hq _ _ s, fun q => absurd rfl q⟩)⟩
  obtain ⟨pu, mc, mw⟩ := T.1.2
  have s0 := mc.1.1.1
  have H12 := ok.1.2
  have fin : ∀ v : Int32, Ret (some (.int v)) h' := fun v => hq v h' T.1.1
  have key : ∀ m i : Nat, i + m = dH (DD k) → ∀ (o3 : Option Value) (x4 : Int32), A (65, [some (.ref 77), some (.int x1), some (.int x2), o3, some (.int x4), some (.int (nI i))], [], h', 0, 0) := by
    intro m
    induction m with
    | zero =>
      intro i hi o3 x4
      refine vX10_holds_65 hA ⟨s0, fun _ => fin _, fun q => ?_⟩
      rw [mc.1.2.2.2.2.1] at q; exact absurd (nI_le (by omega) (by omega)) q
    | succ m ih =>
      intro i hi o3 x4
      refine vX10_holds_65 hA ⟨s0, fun q => ?_, fun _ => ⟨s0, c_mslackBy a T hw (fun v => ⟨_, rfl, c_lesser (fun v2 => ⟨_, rfl, ?_⟩)⟩)⟩⟩
      · rw [mc.1.2.2.2.2.1] at q; exact absurd q (nI_ge (by omega) (by omega))
      · rw [← nI_succ]; exact ih (i + 1) (by omega) _ _
  exact ⟨fun q => absurd q (by decide), fun _ => ⟨fun e => ⟨fun _ => key (dH (DD k)) 0 (by omega) _ _, fun q => absurd e q⟩, fun e => ⟨s0, c_misHour mc.1 ⟨_, rfl, fun _ => ⟨fun q => absurd q e, fun _ => ⟨s0, c_mslackBy a T hw (fun v => ⟨_, rfl, fun _ => fin _, fun _ => fin _⟩)⟩⟩, fun _ => fin _⟩⟩⟩⟩
theorem t10_trust {x1 x2 x3 : Int32} (a : tc h z DD N C) (hq : ∀ (v : Int32) h', ax_same md_F h h' → Ret (some (.int v)) h') : mX10_trust g [.ref 77, .int x1, .int x2, .int x3] h Ret := by
  refine uX10_trust (fun A hA => vX10_trust_0 hA ⟨a.2.1.1, ?_⟩)
  intro u1
  refine ⟨a.2.1.1, q_tab a hq (fun k w h' hk hw ok T => ⟨fun _ => ?_, fun q => absurd q (by decide)⟩) (fun h' s => ⟨fun q => absurd rfl q, fun _ => hq _ _ s⟩)⟩
  obtain ⟨pu, mc, mw⟩ := T.1.2
  have s0 := mc.1.1.1
  have H12 := ok.1.2
  have fin : ∀ v : Int32, Ret (some (.int v)) h' := fun v => hq v h' T.1.1
  obtain ⟨e1, e2⟩ := mo_we mc.1.1
  have key : ∀ m i : Nat, i + m = dH (DD k) → ∀ x4 : Int64, 0 ≤ x4.toInt → x4.toInt ≤ 9 * i → A (29, [some (.ref 77), some (.int x1), some (.int x2), some (.int x3), some (.long x4), none, some (.int (nI i))], [], h', 0, 0) := by
    intro m
    induction m with
    | zero =>
      intro i hi x4 b1 b2
      refine vX10_trust_29 hA ⟨s0, fun _ => ⟨s0, ?_⟩, fun q => ?_⟩
      · rw [mw.2.1]; exact c_part (by omega) (by rw [i_64]; exact (sp_t_bd ok _).1) ⟨_, rfl, fin _⟩
      · rw [mc.1.2.2.2.2.1] at q; exact absurd (nI_le (by omega) (by omega)) q
    | succ m ih =>
      intro i hi x4 b1 b2
      refine vX10_trust_29 hA ⟨s0, fun q => ?_, fun q => ⟨s0, c_mslackBy a T hw (fun v => ⟨_, rfl, fun _ => ?_, fun _ => ⟨s0, _, e1, by rw [e2], by rw [e2]; exact vp_in_nI (by omega) (by decide), ?_⟩⟩)⟩⟩
      · rw [mc.1.2.2.2.2.1] at q; exact absurd q (nI_ge (by omega) (by omega))
      · rw [← nI_succ, Int64.add_zero]; exact ih (i + 1) (by omega) x4 b1 (by omega)
      · rw [nI_clamp (by omega), mw.1 i (by omega), ← nI_succ]
        have bw := sp_w_bd ok (sp_po (dP (DD k)) pu) i
        have ea : (x4 + (sp_w (DD k) (sp_po (dP (DD k)) pu) i).toInt64).toInt = x4.toInt + (sp_w (DD k) (sp_po (dP (DD k)) pu) i).toInt := by rw [i64_add (by rw [i_64]; omega) (by rw [i_64]; omega), i_64]
        exact ih (i + 1) (by omega) _ (by rw [ea]; omega) (by rw [ea]; omega)
  exact key (dH (DD k)) 0 (by omega) 0 (by decide) (by decide)
theorem t10_tight {x1 x2 : Int32} (a : tc h z DD N C) (hq : ∀ (v : Int32) h', ax_same md_F h h' → Ret (some (.int v)) h') : mX10_tight g [.ref 77, .int x1, .int x2] h Ret := by
  refine uX10_tight (fun A hA => vX10_tight_0 hA ⟨a.2.1.1, ?_⟩)
  intro u1
  refine ⟨a.2.1.1, q_tab a hq (fun k w h' hk hw ok T => ⟨fun _ => ?_, fun q => absurd q (by decide)⟩) (fun h' s => ⟨fun q => absurd rfl q, fun _ => hq _ _ s⟩)⟩
  obtain ⟨pu, mc, mw⟩ := T.1.2
  have c := tc_md T.1.1 a
  have s0 := mc.1.1.1
  have H12 := ok.1.2
  have n8 : N 3 w ≤ 8 := (a.2.2.2.2.2.2 3 w (by decide) (by decide) hw).1
  have fin : ∀ v : Int32, Ret (some (.int v)) h' := fun v => hq v h' T.1.1
  have key : ∀ m i : Nat, N 3 w ≤ i + 1 + m → i ≤ 8 → ∀ (x3 x4 : Int32) (o2 o6 o7 : Option Value), A (33, [some (.ref 77), some (.int x1), o2, some (.int x3), some (.int x4), some (.int (nI i)), o6, o7], [], h', 0, 0) := by
    intro m
    induction m with
    | zero =>
      intro i hi i8 x3 x4 o2 o6 o7
      refine vX10_tight_33 hA ⟨s0, c_mtrains c.2.1 c.2.2.2.1 c.2.2.2.2 hw T.2 ⟨_, rfl, fun _ => fin _, fun q => ?_⟩⟩
      rw [← nI_succ] at q; exact absurd (nI_le (by omega) (by omega)) q
    | succ m ih =>
      intro i hi i8 x3 x4 o2 o6 o7
      refine vX10_tight_33 hA ⟨s0, c_mtrains c.2.1 c.2.2.2.1 c.2.2.2.2 hw T.2 ⟨_, rfl, fun _ => fin _, fun q => ?_⟩⟩
      rw [← nI_succ, nI_leI (by omega) (by omega)] at q
      have inn : ∀ f j : Nat, j + f = dH (DD k) → ∀ (x3 x4 : Int32) (o2 o7 : Option Value), A (47, [some (.ref 77), some (.int x1), o2, some (.int x3), some (.int x4), some (.int (nI i)), some (.int (nI j)), o7], [], h', 0, 0) := by
        intro f
        induction f with
        | zero =>
          intro j hj x3 x4 o2 o7
          refine vX10_tight_47 hA ⟨s0, fun _ => ?_, fun q => ?_⟩
          · rw [← nI_succ]; exact ih (i + 1) (by omega) (by omega) _ _ _ _ _
          · rw [mc.1.2.2.2.2.1] at q; exact absurd (nI_le (by omega) (by omega)) q
        | succ f ihf =>
          intro j hj x3 x4 o2 o7
          refine vX10_tight_47 hA ⟨s0, fun q => ?_, fun _ => ⟨s0, ?_⟩⟩
          · rw [mc.1.2.2.2.2.1] at q; exact absurd q (nI_ge (by omega) (by omega))
          · rw [← nI_succ]
            refine c_mtrainOf (j := 0) c.2.1 c.2.2.2.1 c.2.2.2.2 hw T.2 (by omega) (by decide) ⟨_, rfl, c_trueAt ⟨_, rfl, s0, c_mtrainOf (j := 0) c.2.1 c.2.2.2.1 c.2.2.2.2 hw T.2 (by omega) (by decide) ⟨_, rfl, c_trueAt ⟨_, rfl, s0, c_mtrainOf (j := 1) c.2.1 c.2.2.2.1 c.2.2.2.2 hw T.2 (by omega) (by decide) ⟨_, rfl, fun _ => c_lesser (fun v => ⟨_, rfl, ?_⟩), fun _ => c_lesser (fun v => ⟨_, rfl, ?_⟩)⟩⟩⟩⟩⟩
            all_goals (rw [← nI_succ]; exact ihf (j + 1) (by omega) _ _ _ _)
      exact inn (dH (DD k)) 0 (by omega) _ _ _ _
  exact key 8 0 (by omega) (by omega) _ _ _ _ _
theorem t10_clock {x1 x2 x3 x4 : Int32} (a : tc h z DD N C) (hq : ∀ (v : Int32) h', ax_same md_F h h' → Ret (some (.int v)) h') : mX10_clock g [.ref 77, .int x1, .int x2, .int x3, .int x4] h Ret := by
  refine eX10_clock ⟨a.2.1.1, ?_⟩
  intro u1
  refine ⟨a.2.1.1, q_tab a hq (fun k w h' hk hw ok T => ⟨fun q => absurd q (by decide), fun _ => ?_⟩) (fun h' s => ⟨fun _ => hq _ _ s, fun q => absurd rfl q⟩)⟩
  obtain ⟨pu, mc, mw⟩ := T.1.2
  have c := tc_md T.1.1 a
  have s0 := mc.1.1.1
  have n8 : N 3 w ≤ 8 := (a.2.2.2.2.2.2 3 w (by decide) (by decide) hw).1
  have fin : ∀ v : Int32, Ret (some (.int v)) h' := fun v => hq v h' T.1.1
  refine ⟨s0, c_mtrains c.2.1 c.2.2.2.1 c.2.2.2.2 hw T.2 ⟨_, rfl, c_minN (by omega) ⟨_, rfl, fun _ => fin _, fun q => ?_⟩⟩⟩
  obtain ⟨j, hj, rfl⟩ := sp_in_ix (by omega) (b2i_n0.mp q)
  refine ⟨fun e => ⟨fun q => absurd e q, fun _ => ⟨s0, c_findEarliest a ok T hw (by omega) (fun h2 T2 => ⟨rfl, ?_⟩)⟩⟩, fun e => ⟨s0, c_misHour mc.1 ⟨_, rfl, fun _ => ⟨fun _ => ⟨s0, ?_⟩, fun q => absurd q e⟩, fun _ => fin _⟩⟩⟩
  · obtain ⟨pu2, mc2, mw2⟩ := T2.1.2
    obtain ⟨e1, e2⟩ := mo_ea mc2.1.1
    exact ⟨mc2.1.1.1, _, e1, by rw [e2], by rw [e2]; exact vp_in_nI (by omega) (by decide), hq _ _ T2.1.1⟩
  · exact c_mtrainOf (j := 0) c.2.1 c.2.2.2.1 c.2.2.2.2 hw T.2 hj (by decide) ⟨_, rfl, c_trueAt ⟨_, rfl, s0, c_mtrainOf (j := 1) c.2.1 c.2.2.2.1 c.2.2.2.2 hw T.2 hj (by decide) ⟨_, rfl, fun _ => fin _, fun _ => fin _⟩⟩⟩
theorem n_holds (a : IV h S Im tp) (b : 103 ≤ h.1 ∧ h.1 ≤ B) (x1 x2 x3 : Int32) : prN (mX9_holds g) (mX10_holds g) [.ref 0, .int x1, .int x2, .int x3] [.ref 77, .int x1, .int x2, .int x3] h (inv B) := pr_n a b (fun Ret k => t9_holds (iv_tc a) k) (fun h1 Ret a1 k => t10_holds (iv_tc a1) k)
theorem n_trust (a : IV h S Im tp) (b : 103 ≤ h.1 ∧ h.1 ≤ B) (x1 x2 x3 : Int32) : prN (mX9_trust g) (mX10_trust g) [.ref 0, .int x1, .int x2, .int x3] [.ref 77, .int x1, .int x2, .int x3] h (inv B) := pr_n a b (fun Ret k => t9_trust (iv_tc a) k) (fun h1 Ret a1 k => t10_trust (iv_tc a1) k)
theorem n_tight (a : IV h S Im tp) (b : 103 ≤ h.1 ∧ h.1 ≤ B) (x1 x2 : Int32) : prN (mX9_tight g) (mX10_tight g) [.ref 0, .int x1, .int x2] [.ref 77, .int x1, .int x2] h (inv B) := pr_n a b (fun Ret k => t9_tight (iv_tc a) k) (fun h1 Ret a1 k => t10_tight (iv_tc a1) k)
theorem n_clock (a : IV h S Im tp) (b : 103 ≤ h.1 ∧ h.1 ≤ B) (x1 x2 x3 x4 : Int32) : prN (mX9_clock g) (mX10_clock g) [.ref 0, .int x1, .int x2, .int x3, .int x4] [.ref 77, .int x1, .int x2, .int x3, .int x4] h (inv B) := pr_n a b (fun Ret k => t9_clock (iv_tc a) k) (fun h1 Ret a1 k => t10_clock (iv_tc a1) k)
end
end

section
section
variable {g : ax_G} {Ret : Option Value → ax_H → Prop} {h : ax_H} {z : Nat → Nat} {DD : Nat → rD} {N : Nat → Nat → Nat} {C : Nat → Nat → Nat → Nat → Int32} {S : sT} {Im : Nat → Option sT} {tp : Nat → Nat} {B : Nat}
/-! SHIFT and RULING, of the class -/
def bL (b : Int) (x : Int64) : Prop := -b ≤ x.toInt ∧ x.toInt ≤ b
theorem bL_add {a b : Int} {x y : Int64} (h1 : bL a x) (h2 : bL b y) (h3 : a + b < 9223372036854775808) : bL (a + b) (x + y) := by
  unfold bL at *
  rw [i64_add (by omega) (by omega)]; omega
theorem bL_mono {a b : Int} {x : Int64} (h1 : bL a x) (h2 : a ≤ b) : bL b x := by unfold bL at *; omega
theorem abs_mul {a b x y : Int} (ha : 0 ≤ a) (hb : 0 ≤ b) (hx : -a ≤ x ∧ x ≤ a) (hy : -b ≤ y ∧ y ≤ b) : -(a * b) ≤ x * y ∧ x * y ≤ a * b := by
  have h1 : (x * y).natAbs ≤ (a * b).natAbs := by
    rw [Int.natAbs_mul, Int.natAbs_mul]
    exact Nat.mul_le_mul (by omega) (by omega)
  have h2 : 0 ≤ a * b := Int.mul_nonneg ha hb
  omega
theorem bL_mul {a b : Int} {x y : Int64} (ha : 0 ≤ a) (hb : 0 ≤ b) (h1 : bL a x) (h2 : bL b y) (h3 : a * b < 9223372036854775808) : bL (a * b) (x * y) := by
  have := abs_mul ha hb h1 h2
  unfold bL
  rw [i64_mul (by omega) (by omega)]; exact this
theorem bL_32 {b : Int} {x : Int32} (h1 : -b ≤ x.toInt ∧ x.toInt ≤ b) : bL b x.toInt64 := by unfold bL; rw [i_64]; exact h1
theorem we_bL {D : rD} (ok : rd_ok D) (x y : Int32) {P H : Nat} {vl : Nat → Nat → Int32} (hH : H ≤ 12) : bL 231928233984 (sp_we P H vl (sp_w D x) y) := sp_we_bd hH (fun q => sp_w_bd ok x q)
theorem t9_shift {x1 x2 x3 : Int32} (a : tc h z DD N C) (hq : ∀ (v : Int32) h', ax_same cl_F h h' → Ret (some (.int v)) h') : mX9_shift g [.ref 0, .int x1, .int x2, .int x3] h Ret := by
  refine uX9_shift (fun A hA => vX9_shift_0 hA ⟨a.1.1, q_begun a (fun q => Or.inr ⟨rfl, hq _ h sm_rf⟩) (fun k hk ex ok h' hs xs hc => Or.inl ⟨_, rfl, hc.1.1.1, c_hasPerson hc.1 ⟨_, rfl, fun _ => hq _ h' hs, fun _ => ⟨fun _ => hq _ h' hs, fun _ => ⟨fun _ => ?_, fun _ => hq _ h' hs⟩⟩⟩⟩)⟩)
  have H12 := ok.1.2
  have fin : ∀ v : Int32, Ret (some (.int v)) h' := fun v => hq v h' hs
  have od := hc.2.2
  have e5 := hc.1.2.2.1.1
  have key : ∀ m i : Nat, i + m = dH (DD k) → ∀ (x5 x6 : Int32) (x7 : Int64) (o10 o11 o12 o13 : Option Value), bL 1782 x7 → A (45, [some (.ref 0), some (.int x1), some (.int x2), some (.int x3), some (.ref (6 + 14 * k)), some (.int x5), some (.int x6), some (.long x7), none, some (.int (nI i)), o10, o11, o12, o13], [], h', 0, 0) := by
    intro m
    induction m with
    | zero =>
      intro i hi x5 x6 x7 o10 o11 o12 o13 b7
      have big : ∀ x, -9223372036854775808 < (sp_we (dP (DD k)) (dH (DD k)) (sp_vl (DD k)) (sp_w (DD k) (rul (DD k))) x + x7).toInt := fun x => by have := bL_add (we_bL ok (rul (DD k)) x H12 (P := dP (DD k)) (vl := sp_vl (DD k))) b7 (by decide); unfold bL at this; omega
      refine vX9_shift_45 hA ⟨hc.1.1.1, fun _ => ⟨fun _ => ⟨xs.1, _, xs.2.1.2.2.2.1, xs.1, _, xs.2.1.2.2.2.2.1, hc.2.1.1.1, c_weighed hc.2.1 od (Nat.le_refl _) ⟨_, rfl, xs.1, _, xs.2.1.2.2.2.2.1, od.1.1, fun _ => ?_, fun _ => ?_⟩⟩, fun _ => ⟨fun _ => fin _, fun _ => fin _⟩⟩, fun q => ?_⟩
      · rw [od.2.2.2.1]; exact c_side (big _) (t_pos ok) ⟨_, rfl, fin _⟩
      · rw [od.2.2.2.1]; exact c_side (big _) (t_pos ok) ⟨_, rfl, fin _⟩
      · rw [e5] at q; exact absurd (nI_le (by omega) (by omega)) q
    | succ m ih =>
      intro i hi x5 x6 x7 o10 o11 o12 o13 b7
      have inn : ∀ f j : Nat, j + f = dH (DD k) → ∀ (x5 x6 x10 : Int32) (x7 : Int64) (o12 o13 : Option Value), bL 1782 x7 → (-99 ≤ x10.toInt ∧ x10.toInt ≤ 99) → A (73, [some (.ref 0), some (.int x1), some (.int x2), some (.int x3), some (.ref (6 + 14 * k)), some (.int x5), some (.int x6), some (.long x7), none, some (.int (nI i)), some (.int x10), some (.int (nI j)), o12, o13], [], h', 0, 0) := by
        intro f
        induction f with
        | zero =>
          intro j hj x5 x6 x10 x7 o12 o13 b7 b10
          refine vX9_shift_73 hA ⟨hc.1.1.1, fun _ => ?_, fun q => ?_⟩
          · rw [← nI_succ]; exact ih (i + 1) (by omega) _ _ _ _ _ _ _ b7
          · rw [e5] at q; exact absurd (nI_le (by omega) (by omega)) q
        | succ f ihf =>
          intro j hj x5 x6 x10 x7 o12 o13 b7 b10
          refine vX9_shift_73 hA ⟨hc.1.1.1, fun q => ?_, fun _ => ⟨xs.1, _, xs.2.1.2.2.2.2.1, od.1.1, _, od.1.2.1, by rw [od.1.2.2], by rw [od.1.2.2]; exact vp_in_nI (by omega) (by decide), xs.1, _, xs.2.1.2.2.2.2.1, od.1.1, _, od.1.2.1, by rw [od.1.2.2], by rw [od.1.2.2]; exact vp_in_nI (by omega) (by decide), ?_⟩⟩
          · rw [e5] at q; exact absurd q (nI_ge (by omega) (by omega))
          · intro z29
            have bz : bL 18 z29 := by
              show bL 18 (ax_i h' 56 (nI j).toNatClampNeg - ax_i h' 56 (nI i).toNatClampNeg).toInt64
              rw [nI_clamp (by omega), nI_clamp (by omega), od.2.2.2.2 j (by omega), od.2.2.2.2 i (by omega)]
              have b1 := sp_w_bd ok (rul (DD k)) i
              have b2 := sp_w_bd ok (rul (DD k)) j
              refine bL_32 ?_
              rw [i32_sub (by omega) (by omega)]; omega
            have br : bL 1782 (x10.toInt64 * z29) := bL_mul (a := 99) (b := 18) (by decide) (by decide) (bL_32 b10) bz (by decide)
            refine ⟨hc.1.1.1, c_deedAt hc.1 ⟨_, rfl, fun _ => ?_, fun _ => ⟨fun _ => ?_, fun _ => ?_⟩⟩⟩
            · rw [← nI_succ]; exact ihf (j + 1) (by omega) _ _ _ _ _ _ b7 b10
            · rw [← nI_succ]; exact ihf (j + 1) (by omega) _ _ _ _ _ _ b7 b10
            · rw [← nI_succ]; exact ihf (j + 1) (by omega) _ _ _ _ _ _ br b10
      refine vX9_shift_45 hA ⟨hc.1.1.1, fun q => ?_, fun _ => ⟨hc.1.1.1, c_deedAt hc.1 ⟨_, rfl, hc.1.1.1, c_extraOf hc.1 ⟨_, rfl, inn (dH (DD k)) 0 (by omega) _ _ _ _ _ _ b7 (ex_bd ok _ _)⟩⟩⟩⟩
      rw [e5] at q; exact absurd q (nI_ge (by omega) (by omega))
  exact key (dH (DD k)) 0 (by omega) _ _ _ _ _ _ _ (by unfold bL; decide)
theorem c_changeBy {k : Nat} {D : rD} {x y : Int32} (ok : rd_ok D) (xs : xs_st h) (hc : hc_at h k D) (hq : ∀ v, bL 128304 v → Ret (some (.long v)) h) : mX9_changeBy g [.ref 0, .ref (6 + 14 * k), .int x, .int y] h Ret := by
  have H12 := ok.1.2
  have P6 := ok.2.1
  have od := hc.2.2
  refine uX9_changeBy (fun A hA => vX9_changeBy_0 hA ?_)
  have key : ∀ m i : Nat, i + m = dP D → ∀ (x4 : Int64) (o7 : Option Value), bL (108 * i) x4 → A (6, [some (.ref 0), some (.ref (6 + 14 * k)), some (.int x), some (.int y), some (.long x4), none, some (.int (nI i)), o7], [], h, 0, 0) := by
    intro m
    induction m with
    | zero =>
      intro i hi x4 o7 b4
      refine vX9_changeBy_6 hA ⟨hc.1.1.1, fun _ => ⟨hc.1.1.1, c_extraBy hc.1 ⟨_, rfl, hc.1.1.1, c_extraOf hc.1 ⟨_, rfl, hq _ ?_⟩⟩⟩, fun q => ?_⟩
      · have e1 := ex_bd ok x y
        have e2 := ex_bd ok x (sp_mo D x)
        exact bL_mul (a := 648) (b := 198) (by decide) (by decide) (bL_mono b4 (by omega)) (bL_32 (by unfold sp_ex; rw [i32_sub (by omega) (by omega)]; omega)) (by decide)
      · rw [hc.1.2.2.1.2] at q; exact absurd (nI_le (by omega) (by omega)) q
    | succ m ih =>
      intro i hi x4 o7 b4
      have inn : ∀ f j : Nat, j + f = dH D → ∀ x4 : Int64, bL (108 * i + 9 * j) x4 → A (18, [some (.ref 0), some (.ref (6 + 14 * k)), some (.int x), some (.int y), some (.long x4), none, some (.int (nI i)), some (.int (nI j))], [], h, 0, 0) := by
        intro f
        induction f with
        | zero =>
          intro j hj x4 b4
          refine vX9_changeBy_18 hA ⟨hc.1.1.1, fun _ => ?_, fun q => ?_⟩
          · rw [← nI_succ]; exact ih (i + 1) (by omega) _ _ (bL_mono b4 (by omega))
          · rw [hc.1.2.2.1.1] at q; exact absurd (nI_le (by omega) (by omega)) q
        | succ f ihf =>
          intro j hj x4 b4
          refine vX9_changeBy_18 hA ⟨hc.1.1.1, fun q => ?_, fun _ => ⟨hc.1.1.1, c_deedAt hc.1 ⟨_, rfl, fun _ => ?_, fun _ => ⟨xs.1, _, xs.2.1.2.2.2.2.1, od.1.1, _, od.1.2.1, by rw [od.1.2.2], by rw [od.1.2.2]; exact vp_in_nI (by omega) (by decide), ?_⟩⟩⟩⟩
          · rw [hc.1.2.2.1.1] at q; exact absurd q (nI_ge (by omega) (by omega))
          · rw [← nI_succ, Int64.add_zero]; exact ihf (j + 1) (by omega) _ (bL_mono b4 (by omega))
          · rw [nI_clamp (by omega), od.2.2.2.2 j (by omega), ← nI_succ]
            have bw := sp_w_bd ok (rul D) j
            exact ihf (j + 1) (by omega) _ (bL_mono (bL_add b4 (bL_32 (b := 9) (x := sp_w D (rul D) j) (by omega)) (by omega)) (by omega))
      refine vX9_changeBy_6 hA ⟨hc.1.1.1, fun q => ?_, fun _ => inn (dH D) 0 (by omega) _ (bL_mono b4 (by omega))⟩
      rw [hc.1.2.2.1.2] at q; exact absurd q (nI_ge (by omega) (by omega))
  exact key (dP D) 0 (by omega) _ _ (by unfold bL; decide)
theorem t9_ruling {x1 x2 : Int32} (a : tc h z DD N C) (hq : ∀ (v : Int32) h', ax_same cl_F h h' → Ret (some (.int v)) h') : mX9_ruling g [.ref 0, .int x1, .int x2] h Ret := by
  refine uX9_ruling (fun A hA => vX9_ruling_0 hA ⟨a.1.1, q_begun a (fun q => Or.inr ⟨rfl, hq _ h sm_rf⟩) (fun k hk ex ok h' hs xs hc => Or.inl ⟨_, rfl, fun _ => hq _ h' hs, fun _ => ⟨fun _ => ?_, fun _ => hq _ h' hs⟩⟩)⟩)
  have H12 := ok.1.2
  have P6 := ok.2.1
  have fin : ∀ v : Int32, Ret (some (.int v)) h' := fun v => hq v h' hs
  have od := hc.2.2
  have k2 : ∀ m i : Nat, i + m = 6 → ∀ (x6 x7 : Int32) (x4 x8 : Int64) (o11 o12 o13 : Option Value), bL 1391569403904 x4 → bL 1391569532208 x8 → A (82, [some (.ref 0), some (.int x1), some (.int x2), some (.ref (6 + 14 * k)), some (.long x4), none, some (.int x6), some (.int x7), some (.long x8), none, some (.int (nI i)), o11, o12, o13], [], h', 0, 0) := by
    intro m
    induction m with
    | zero =>
      intro i hi x6 x7 x4 x8 o11 o12 o13 b4 b8
      have big : -9223372036854775808 < x8.toInt := by unfold bL at b8; omega
      refine vX9_ruling_82 hA ⟨fun _ => ⟨fun _ => ⟨xs.1, _, xs.2.1.2.2.2.2.1, od.1.1, fun _ => ?_, fun _ => ?_⟩, fun _ => ⟨fun _ => fin _, fun _ => fin _⟩⟩, fun q => absurd (nI_le (a := 6) (b := i) (by omega) (by omega)) q⟩
      · rw [od.2.2.2.1]; exact c_side big (t_pos ok) ⟨_, rfl, fin _⟩
      · rw [od.2.2.2.1]; exact c_side big (t_pos ok) ⟨_, rfl, fin _⟩
    | succ m ih =>
      intro i hi x6 x7 x4 x8 o11 o12 o13 b4 b8
      have inn : ∀ f j : Nat, j + f = 3 → ∀ (x6 x7 : Int32) (x8 : Int64) (o12 o13 : Option Value), bL 1391569532208 x8 → A (92, [some (.ref 0), some (.int x1), some (.int x2), some (.ref (6 + 14 * k)), some (.long x4), none, some (.int x6), some (.int x7), some (.long x8), none, some (.int (nI i)), some (.int (nI j)), o12, o13], [], h', 0, 0) := by
        intro f
        induction f with
        | zero =>
          intro j hj x6 x7 x8 o12 o13 b8
          refine vX9_ruling_92 hA ⟨fun _ => ?_, fun q => absurd (nI_le (a := 3) (b := j) (by omega) (by omega)) q⟩
          rw [← nI_succ]; exact ih (i + 1) (by omega) _ _ _ _ _ _ _ b4 b8
        | succ f ihf =>
          intro j hj x6 x7 x8 o12 o13 b8
          refine vX9_ruling_92 hA ⟨fun q => absurd q (nI_ge (a := j) (b := 3) (by omega) (by decide)), fun _ => ⟨xs.1, c_changeBy ok xs hc (fun v bv => ⟨_, rfl, fun _ => ?_, fun _ => ?_⟩)⟩⟩
          · rw [← nI_succ]; exact ihf (j + 1) (by omega) _ _ _ _ _ b8
          · rw [← nI_succ]; exact ihf (j + 1) (by omega) _ _ _ _ _ (bL_mono (bL_add b4 bv (by decide)) (by decide))
      exact vX9_ruling_82 hA ⟨fun q => absurd q (nI_ge (a := i) (b := 6) (by omega) (by decide)), fun _ => inn 3 0 (by decide) _ _ _ _ _ b8⟩
  have k1 : ∀ m i : Nat, i + m = dP (DD k) → ∀ (x4 : Int64) (o7 o8 o9 o10 o11 o12 o13 : Option Value), bL (231928233984 * i) x4 → A (28, [some (.ref 0), some (.int x1), some (.int x2), some (.ref (6 + 14 * k)), some (.long x4), none, some (.int (nI i)), o7, o8, o9, o10, o11, o12, o13], [], h', 0, 0) := by
    intro m
    induction m with
    | zero =>
      intro i hi x4 o7 o8 o9 o10 o11 o12 o13 b4
      have b6 : bL 1391569403904 x4 := bL_mono b4 (by omega)
      refine vX9_ruling_28 hA ⟨hc.1.1.1, fun _ => ⟨xs.1, c_changeBy ok xs hc (fun v bv => ⟨_, rfl, k2 6 0 (by decide) _ _ _ _ _ _ _ b6 (bL_mono (bL_add b6 bv (by decide)) (by decide))⟩)⟩, fun q => ?_⟩
      rw [hc.1.2.2.1.2] at q; exact absurd (nI_le (by omega) (by omega)) q
    | succ m ih =>
      intro i hi x4 o7 o8 o9 o10 o11 o12 o13 b4
      refine vX9_ruling_28 hA ⟨hc.1.1.1, fun q => ?_, fun _ => ⟨xs.1, _, xs.2.1.2.2.2.1, xs.1, _, xs.2.1.2.2.2.2.1, hc.2.1.1.1, c_weighed hc.2.1 od (Nat.le_refl _) ⟨_, rfl, ?_⟩⟩⟩
      · rw [hc.1.2.2.1.2] at q; exact absurd q (nI_ge (by omega) (by omega))
      · rw [← nI_succ]
        exact ih (i + 1) (by omega) _ _ _ _ _ _ _ _ (bL_mono (bL_add b4 (we_bL ok (rul (DD k)) (nI i) H12) (by omega)) (by omega))
  exact k1 (dP (DD k)) 0 (by omega) _ _ _ _ _ _ _ _ (by unfold bL; decide)
end
end

section
section
variable {g : ax_G} {Ret : Option Value → ax_H → Prop} {h : ax_H} {z : Nat → Nat} {DD : Nat → rD} {N : Nat → Nat → Nat} {C : Nat → Nat → Nat → Nat → Int32} {S : sT} {Im : Nat → Option sT} {tp : Nat → Nat} {B : Nat}
/-! SHIFT and RULING, of the reference: deeds of any kind, values of any size -/
def dOk (d : Int32) : Prop := d = -1 ∨ ∃ k : Nat, k < 6 ∧ d = nI k
section
variable {hh : ax_H} {ρ : Nat} {D : rD} {mo : Nat → Int32}
def deA (hh : ax_H) (D : rD) : Prop := ∀ p q, p < dP D → q < dH D → dOk (ax_i hh 91 (12 * p + q))
theorem t_mworth {p q : Nat} {l : Int32} (a : mb_at hh 77 ρ D mo) (d : deA hh D) (hp : p < dP D) (hq0 : q < dH D) (hq : ∀ v : Int32, Ret (some (.int v)) hh) : mX10_worthOf g [.ref 77, .int (nI p), .int (nI q), .int l] hh Ret := by
  obtain ⟨a1, a2, a3, a4, -, -, -⟩ := id a
  obtain ⟨e1, e2⟩ := mo_de a1
  have hb := a3.1
  have ei : (12 : Int32) * nI p + nI q = nI (12 * p + q) := ni_21
  refine eX10_worthOf ⟨a1.1, _, e1, by rw [e2], ?_, fun h1 => ?_, fun h1 => hq _⟩
  · rw [ei, e2]; exact vp_in_nI (by omega) (by decide)
  · rw [ei, nI_clamp (by omega)] at h1 ⊢
    obtain ⟨k, hk, hd⟩ := (d p q hp hq0).resolve_left h1
    rw [show ax_i hh (77 + 14) (12 * p + q) = nI k from hd]
    exact ⟨a1.1, c_mof (i := 8 + k) a1 a2 a4 (by omega) (ni_c 8 k) ⟨_, rfl, fun h2 => ⟨a1.1, c_mmode a hk ⟨_, rfl, c_mtimes ⟨_, rfl, hq _⟩⟩⟩, fun h2 => hq _⟩⟩
theorem t_mvalueBy {p : Nat} {x y : Int32} (a : mb_at hh 77 ρ D mo) (d : deA hh D) (hp : p < dP D) (hq : ∀ v : Int32, Ret (some (.int v)) hh) : mX10_valueBy g [.ref 77, .int (nI p), .int x, .int y] hh Ret := by
  have H12 := a.2.2.1.1.1
  refine uX10_valueBy (fun A hA => vX10_valueBy_0 hA ?_)
  have key : ∀ n i : Nat, i + n = dH D → ∀ (x4 : Int32) (o6 : Option Value), A (6, [some (.ref 77), some (.int (nI p)), some (.int x), some (.int y), some (.int x4), some (.int (nI i)), o6], [], hh, 0, 0) := by
    intro n
    induction n with
    | zero =>
      intro i hi x4 o6
      refine vX10_valueBy_6 hA ⟨a.1.1, fun _ => hq _, fun q => ?_⟩
      rw [a.2.2.2.2.1] at q; exact absurd (nI_le (by omega) (by omega)) q
    | succ n ih =>
      intro i hi x4 o6
      refine vX10_valueBy_6 hA ⟨a.1.1, fun q => ?_, fun _ => ⟨fun _ => ⟨fun _ => ⟨a.1.1, t_mworth a d hp (by omega) (fun v => ⟨_, rfl, ?_⟩)⟩, fun _ => ⟨a.1.1, t_mworth a d hp (by omega) (fun v => ⟨_, rfl, ?_⟩)⟩⟩, fun _ => ⟨fun _ => ⟨a.1.1, t_mworth a d hp (by omega) (fun v => ⟨_, rfl, ?_⟩)⟩, fun _ => ⟨a.1.1, t_mworth a d hp (by omega) (fun v => ⟨_, rfl, ?_⟩)⟩⟩⟩⟩
      · rw [a.2.2.2.2.1] at q; exact absurd q (nI_ge (by omega) (by omega))
      all_goals (rw [← nI_succ]; exact ih (i + 1) (by omega) _ _)
  exact key (dH D) 0 (by omega) _ _
theorem t_mlayValues {p : Nat} (a : mb_at hh 77 ρ D mo) (d : deA hh D) (hp : p < dP D) (hq : ∀ h', mr noJ (fun a => a = 92) 77 hh h' → Ret none h') : mX10_layValues g [.ref 77, .int (nI p)] hh Ret := by
  have H12 := a.2.2.1.1.1
  have P6 := a.2.2.1.1.2
  refine uX10_layValues (fun A hA => vX10_layValues_0 hA ?_)
  have key : ∀ n i : Nat, i + n = dH D → ∀ h3, mr noJ (fun a => a = 92) 77 hh h3 → A (2, [some (.ref 77), some (.int (nI p)), some (.int (nI i))], [], h3, 0, 0) := by
    intro n
    induction n with
    | zero =>
      intro i hi h3 r3
      have b := mb_at_mr r3 (by unfold noJ; decide) (by decide) a
      refine vX10_layValues_2 hA ⟨b.1.1, fun _ => hq h3 r3, fun q => ?_⟩
      rw [b.2.2.2.2.1] at q; exact absurd (nI_le (by omega) (by omega)) q
    | succ n ih =>
      intro i hi h3 r3
      have b := mb_at_mr r3 (by unfold noJ; decide) (by decide) a
      have d3 : deA h3 D := fun p q hp hq => by rw [mr_e r3 (by decide) (by decide)]; exact d p q hp hq
      obtain ⟨e1, e2⟩ := mo_va b.1
      have ei : (12 : Int32) * nI p + nI i = nI (12 * p + i) := ni_21
      refine vX10_layValues_2 hA ⟨b.1.1, fun q => ?_, fun _ => ⟨b.1.1, _, e1, b.1.1, t_mvalueBy b d3 hp (fun v => ⟨_, rfl, by rw [e2], by rw [ei, e2]; exact vp_in_nI (by omega) (by decide), ?_⟩)⟩⟩
      · rw [b.2.2.2.2.1] at q; exact absurd q (nI_ge (by omega) (by omega))
      · intro u5
        rw [← nI_succ]
        exact ih (i + 1) (by omega) u5 (mr_tr r3 (mr_c rfl (by decide)))
  exact key (dH D) 0 (by omega) hh mr_rf
theorem t_mmeanOf {p : Nat} {x : Int32} (ok : rd_ok D) (a : mb_at hh 77 ρ D mo) (b : mw_at hh 77 (dH D) (sp_w D x) (sp_t D x) x) (hp : p < dP D) (hq : ∀ v, bL 231928233984 v → Ret (some (.long v)) hh) : mX10_meanOf g [.ref 77, .int (nI p)] hh Ret := by
  obtain ⟨hH, hP⟩ := a.2.2.1.1
  have s0 := a.1.1
  obtain ⟨e1, e2⟩ := mo_we a.1
  obtain ⟨f1, f2⟩ := mo_va a.1
  refine uX10_meanOf (fun A hA => vX10_meanOf_0 hA ?_)
  have key : ∀ n i : Nat, i + n = dH D → ∀ x2 : Int64, bL (19327352832 * i) x2 → A (5, [some (.ref 77), some (.int (nI p)), some (.long x2), none, some (.int (nI i))], [], hh, 0, 0) := by
    intro n
    induction n with
    | zero =>
      intro i hi x2 b2
      refine vX10_meanOf_5 hA ⟨s0, fun _ => hq _ (bL_mono b2 (by omega)), fun q => ?_⟩
      rw [a.2.2.2.2.1] at q; exact absurd (nI_le (by omega) (by omega)) q
    | succ n ih =>
      intro i hi x2 b2
      have ei : (12 : Int32) * nI p + nI i = nI (12 * p + i) := ni_21
      refine vX10_meanOf_5 hA ⟨s0, fun q => ?_, fun _ => ⟨s0, _, e1, by rw [e2], by rw [e2]; exact vp_in_nI (by omega) (by decide), s0, _, f1, by rw [f2], by rw [ei, f2]; exact vp_in_nI (by omega) (by decide), ?_⟩⟩
      · rw [a.2.2.2.2.1] at q; exact absurd q (nI_ge (by omega) (by omega))
      · intro z3
        have bz : bL 19327352832 z3 := by
          show bL 19327352832 ((ax_i hh (77 + 16) (nI i).toNatClampNeg).toInt64 * (ax_i hh (77 + 15) ((12 : Int32) * nI p + nI i).toNatClampNeg).toInt64)
          rw [nI_clamp (by omega), b.1 i (by omega)]
          have bw := sp_w_bd ok x i
          exact bL_mono (bL_mul (a := 9) (b := 2147483648) (by decide) (by decide) (bL_32 (by omega)) (bL_32 (by have := i_bd (ax_i hh (77 + 15) ((12 : Int32) * nI p + nI i).toNatClampNeg); omega)) (by decide)) (by decide)
        rw [← nI_succ]
        exact ih (i + 1) (by omega) _ (bL_mono (bL_add b2 bz (by omega)) (by omega))
  exact key (dH D) 0 (by omega) _ (by unfold bL; decide)
end
/-- what SHIFT and RULING keep while they try -/
def sM (h hh : ax_H) (k : Nat) (D : rD) : Prop := ax_same md_F h hh ∧ (∃ mo, mb_at hh 77 k D mo) ∧ (∃ x, mw_at hh 77 (dH D) (sp_w D x) (sp_t D x) x) ∧ deA hh D
theorem sM_hm {h' : ax_H} {k : Nat} {D : rD} (ok : rd_ok D) (s : ax_same md_F h h') (hm : hm_at h' k D) : sM h h' k D := ⟨s, ⟨_, hm.1.1⟩, ⟨_, hm.2⟩, fun p q hp hq => by rw [hm.1.2.2.1 p q hp hq]; exact rd_de_of ok p q hp hq⟩
theorem sM_92 {hh h2 : ax_H} {k : Nat} {D : rD} (M : sM h hh k D) (r : mr noJ (fun a => a = 92) 77 hh h2) : sM h h2 k D := by
  obtain ⟨s, ⟨mo, b⟩, ⟨x, w⟩, d⟩ := M
  exact ⟨sm_tr s (sm_mono r.1 (fun x e => by unfold md_F; omega)), ⟨mo, mb_at_mr r (by unfold noJ; decide) (by decide) b⟩, ⟨x, mw_mr r (by unfold noJ; decide) (by decide) w⟩, fun p q hp hq => by rw [mr_e r (by decide) (by decide)]; exact d p q hp hq⟩
theorem sM_91 {hh : ax_H} {k j : Nat} {v : Int32} {D : rD} (M : sM h hh k D) (hv : dOk v) : sM h (ax_pi hh 91 j v) k D := by
  obtain ⟨s, ⟨mo, b⟩, ⟨x, w⟩, d⟩ := M
  have r : mr noJ (fun a => a = 91) 77 hh (ax_pi hh 91 j v) := mr_c rfl (by decide)
  refine ⟨sm_tr s (sm_mono r.1 (fun x e => by unfold md_F; omega)), ⟨mo, mb_at_mr r (by unfold noJ; decide) (by decide) b⟩, ⟨x, mw_mr r (by unfold noJ; decide) (by decide) w⟩, fun p q hp hq => ?_⟩
  rw [ai_pi]
  split
  · exact hv
  · exact d p q hp hq
theorem t_swap {hh : ax_H} {k p q r : Nat} {D : rD} (M : sM h hh k D) (hp : p < dP D) (hq0 : q < dH D) (hr : r < dH D) (K : ∀ h2, sM h h2 k D → Ret none h2) : mX10_swapDeed g [.ref 77, .int (nI p), .int (nI q), .int (nI r)] hh Ret := by
  obtain ⟨mo, b⟩ := M.2.1
  have d := M.2.2.2
  obtain ⟨hH, hP⟩ := b.2.2.1.1
  obtain ⟨e1, e2⟩ := mo_de b.1
  have eq : (12 : Int32) * nI p + nI q = nI (12 * p + q) := ni_21
  have er : (12 : Int32) * nI p + nI r = nI (12 * p + r) := ni_21
  have vq : vp_in ((12 : Int32) * nI p + nI q) (ax_s hh (77 + 14)).2 := by rw [eq, e2]; exact vp_in_nI (by omega) (by decide)
  have vr : vp_in ((12 : Int32) * nI p + nI r) (ax_s hh (77 + 14)).2 := by rw [er, e2]; exact vp_in_nI (by omega) (by decide)
  have s11 : (ax_s hh (77 + 14)).1 = 11 := by rw [e2]
  refine eX10_swapDeed ⟨b.1.1, _, e1, s11, vq, b.1.1, _, e1, b.1.1, _, e1, s11, vr, s11, vq, ?_⟩
  intro u4
  have M4 : sM h u4 k D := sM_91 M (by rw [er, nI_clamp (by omega)]; exact d p r hp hr)
  refine ⟨b.1.1, _, e1, s11, vr, ?_⟩
  intro u6
  have M6 : sM h u6 k D := sM_91 M4 (by rw [eq, nI_clamp (by omega)]; exact d p q hp hq0)
  obtain ⟨mo6, b6⟩ := M6.2.1
  exact ⟨b6.1.1, t_mlayValues b6 M6.2.2.2 hp (fun h2 r2 => ⟨rfl, K h2 (sM_92 M6 r2)⟩)⟩
theorem t10_shift {x1 x2 x3 : Int32} (a : tc h z DD N C) (hq : ∀ (v : Int32) h', ax_same md_F h h' → Ret (some (.int v)) h') : mX10_shift g [.ref 77, .int x1, .int x2, .int x3] h Ret := by
  obtain ⟨a1, T1, hs1⟩ := q_code (v := 0) a.2.1 a.2.2.2.1
  refine uX10_shift (fun A hA => vX10_shift_0 hA ⟨a.2.1.1, ?_⟩)
  intro h1
  refine c_min ⟨_, rfl, fun _ => hq _ _ hs1, fun _ => ⟨a1.1, q_handOne a1 T1 a.2.2.2.2 (fun h' hs _ => ⟨_, rfl, fun q => absurd rfl q, fun _ => hq _ _ (sm_tr hs1 hs)⟩) (fun k p hk ex ok hp ep h' hs hm => ⟨_, rfl, fun _ => ⟨hm.1.1.1.1, ?_⟩, fun q => absurd q (by decide)⟩)⟩⟩
  subst ep
  have H12 := ok.1.2
  have P6 := ok.2.1
  have M0 := sM_hm ok (sm_tr hs1 hs) hm
  refine t_mmeanOf ok hm.1.1 hm.2 hp (fun v bv => ⟨_, rfl, ?_⟩)
  have key : ∀ n i : Nat, i + n = 12 * dH (DD k) → ∀ h3, sM h h3 k (DD k) → ∀ (x4 : Int32) (x5 : Int64) (o8 o9 o10 o11 : Option Value), bL 231928233984 x5 → A (40, [some (.ref 77), some (.int x1), some (.int (nI p)), some (.int x3), some (.int x4), some (.long x5), none, some (.int (nI i)), o8, o9, o10, o11], [], h3, 0, 0) := by
    intro n
    induction n with
    | zero =>
      intro i hi h3 M x4 x5 o8 o9 o10 o11 b5
      obtain ⟨mo, mb⟩ := M.2.1
      obtain ⟨x, mw⟩ := M.2.2.1
      have fin : ∀ v : Int32, Ret (some (.int v)) h3 := fun v => hq v h3 M.1
      have s0 := mb.1.1
      have e12 : (12 : Int32) * ax_i h3 77 26 = nI (12 * dH (DD k)) := by rw [mb.2.2.2.2.1]; exact ni_mul
      have big : -9223372036854775808 < x5.toInt := by unfold bL at b5; omega
      have tp : 0 < (sp_t (DD k) x).toInt64.toInt := by rw [i_64]; exact (sp_t_bd ok x).1
      refine vX10_shift_40 hA ⟨s0, fun _ => ⟨fun _ => ⟨fun _ => ⟨fun _ => ⟨by decide, fin _⟩, fun _ => ⟨by decide, fin _⟩⟩, fun _ => fin _⟩, fun _ => ⟨s0, fun _ => ?_, fun _ => ?_⟩⟩, fun q => ?_⟩
      · rw [mw.2.1]; exact c_part big tp ⟨_, rfl, fin _⟩
      · rw [mw.2.1]; exact c_part big tp ⟨_, rfl, fin _⟩
      · rw [e12] at q; exact absurd (nI_le (by omega) (by omega)) q
    | succ n ih =>
      intro i hi h3 M x4 x5 o8 o9 o10 o11 b5
      obtain ⟨mo, mb⟩ := M.2.1
      obtain ⟨x, mw⟩ := M.2.2.1
      have s0 := mb.1.1
      obtain ⟨e1, e2⟩ := mo_de mb.1
      have e12 : (12 : Int32) * ax_i h3 77 26 = nI (12 * dH (DD k)) := by rw [mb.2.2.2.2.1]; exact ni_mul
      have ed : nI i / (12 : Int32) = nI (i / 12) := pk_div (d := 12) (by omega) (by decide) (by decide)
      have er : nI i - nI i / (12 : Int32) * 12 = nI (i % 12) := pk_rem (d := 12) (by omega) (by decide) (by decide)
      have di : i / 12 < dH (DD k) := by omega
      have K : ∀ h4, sM h h4 k (DD k) → ∀ (x4 : Int32) (x5 : Int64) (o8 o9 o10 o11 : Option Value), bL 231928233984 x5 → A (40, [some (.ref 77), some (.int x1), some (.int (nI p)), some (.int x3), some (.int x4), some (.long x5), none, some (.int (nI i + 1)), o8, o9, o10, o11], [], h4, 0, 0) := fun h4 M4 x4 x5 o8 o9 o10 o11 b => by rw [← nI_succ]; exact ih (i + 1) (by omega) h4 M4 _ _ _ _ _ _ b
      have eq : (12 : Int32) * nI p + nI (i / 12) = nI (12 * p + i / 12) := ni_21
      have eq2 : (12 : Int32) * nI p + nI (i % 12) = nI (12 * p + i % 12) := ni_21
      refine vX10_shift_40 hA ⟨s0, fun q => ?_, fun _ => ⟨by decide, by decide, s0, fun _ => K h3 M _ _ _ _ _ _ b5, fun qr => ⟨s0, _, e1, by rw [e2], ?_, fun _ => K h3 M _ _ _ _ _ _ b5, fun _ => ⟨s0, _, e1, by rw [e2], ?_, ?_⟩⟩⟩⟩
      · rw [e12] at q; exact absurd q (nI_ge (by omega) (by omega))
      · rw [ed, eq, e2]; exact vp_in_nI (by omega) (by decide)
      · rw [er, eq2, e2]; exact vp_in_nI (by omega) (by decide)
      · intro z19
        have rH : i % 12 < dH (DD k) := by
          rw [er, mb.2.2.2.2.1] at qr
          exact Nat.lt_of_not_le (fun w => qr (nI_le w (by omega)))
        refine ⟨fun _ => K h3 M _ _ _ _ _ _ b5, fun _ => ⟨s0, ?_⟩⟩
        rw [er, ed]
        refine t_swap M hp di rH (fun h4 M4 => ⟨rfl, ?_⟩)
        obtain ⟨mo4, mb4⟩ := M4.2.1
        obtain ⟨x4', mw4⟩ := M4.2.2.1
        refine ⟨mb4.1.1, t_mmeanOf ok mb4 mw4 hp (fun v bv => ⟨_, rfl, mb4.1.1, t_swap M4 hp di rH (fun h5 M5 => ⟨rfl, fun _ => ⟨fun _ => K h5 M5 _ _ _ _ _ _ b5, fun _ => K h5 M5 _ _ _ _ _ _ bv⟩, fun _ => ⟨fun _ => K h5 M5 _ _ _ _ _ _ b5, fun _ => K h5 M5 _ _ _ _ _ _ bv⟩⟩)⟩)⟩
  exact key (12 * dH (DD k)) 0 (by omega) h' M0 _ _ _ _ _ _ bv
theorem n_shift (a : IV h S Im tp) (b : 103 ≤ h.1 ∧ h.1 ≤ B) (x1 x2 x3 : Int32) : prN (mX9_shift g) (mX10_shift g) [.ref 0, .int x1, .int x2, .int x3] [.ref 77, .int x1, .int x2, .int x3] h (inv B) := pr_n a b (fun Ret k => t9_shift (iv_tc a) k) (fun h1 Ret a1 k => t10_shift (iv_tc a1) k)
/-! RULING -/
theorem t_allMeans {hh : ax_H} {k : Nat} {D : rD} (ok : rd_ok D) (M : sM h hh k D) (K : ∀ v h2, bL 1391569403904 v → sM h h2 k D → Ret (some (.long v)) h2) : mX10_allMeans g [.ref 77] hh Ret := by
  have P6 := ok.2.1
  refine uX10_allMeans (fun A hA => vX10_allMeans_0 hA ?_)
  have key : ∀ n i : Nat, i + n = dP D → ∀ h3, sM h h3 k D → ∀ x1 : Int64, bL (231928233984 * i) x1 → A (4, [some (.ref 77), some (.long x1), none, some (.int (nI i))], [], h3, 0, 0) := by
    intro n
    induction n with
    | zero =>
      intro i hi h3 M x1 b1
      obtain ⟨mo, mb⟩ := M.2.1
      refine vX10_allMeans_4 hA ⟨mb.1.1, fun _ => K _ _ (bL_mono b1 (by omega)) M, fun q => ?_⟩
      rw [mb.2.2.2.2.2.1] at q; exact absurd (nI_le (by omega) (by omega)) q
    | succ n ih =>
      intro i hi h3 M x1 b1
      obtain ⟨mo, mb⟩ := M.2.1
      refine vX10_allMeans_4 hA ⟨mb.1.1, fun q => ?_, fun _ => ⟨mb.1.1, t_mlayValues mb M.2.2.2 (by omega) (fun h4 r4 => ⟨rfl, ?_⟩)⟩⟩
      · rw [mb.2.2.2.2.2.1] at q; exact absurd q (nI_ge (by omega) (by omega))
      · have M4 := sM_92 M r4
        obtain ⟨mo4, mb4⟩ := M4.2.1
        obtain ⟨x4, mw4⟩ := M4.2.2.1
        refine ⟨mb4.1.1, t_mmeanOf ok mb4 mw4 (by omega) (fun v bv => ⟨_, rfl, ?_⟩)⟩
        rw [← nI_succ]
        exact ih (i + 1) (by omega) h4 M4 _ (bL_mono (bL_add b1 bv (by omega)) (by omega))
  exact key (dP D) 0 (by omega) hh M _ (by unfold bL; decide)
theorem sM_f {hh : ax_H} {k j : Nat} {v : Int32} {D : rD} (M : sM h hh k D) (hj : j = 34 ∨ j = 35) : sM h (ax_pi hh 77 j v) k D := by
  obtain ⟨s, ⟨mo, b⟩, ⟨x, w⟩, d⟩ := M
  have r : mr (fun i => i = j) (fun _ => False) 77 hh (ax_pi hh 77 j v) := mr_f rfl
  refine ⟨sm_tr s (sm_pi (Or.inl rfl)), ⟨fun κ => if nI κ = ax_i (ax_pi hh 77 j v) 77 34 then ax_i (ax_pi hh 77 j v) 77 35 else dmo D κ, mr_st r b.1, b.2.1, ?_, ?_, ?_, ?_, fun _ _ => rfl⟩, ⟨x, mw_mr r (by rcases hj with rfl | rfl <;> decide) id w⟩, fun p q hp hq => by rw [mr_e r (by decide) id]; exact d p q hp hq⟩
  · exact rm_at_same r.1 (by rintro (q | q); exact absurd q (by decide); exact q) b.2.2.1
  · rw [(r.2 25 (by rcases hj with rfl | rfl <;> decide)).1]; exact b.2.2.2.1
  · rw [(r.2 26 (by rcases hj with rfl | rfl <;> decide)).1]; exact b.2.2.2.2.1
  · rw [(r.2 27 (by rcases hj with rfl | rfl <;> decide)).1]; exact b.2.2.2.2.2.1
theorem t10_ruling {x1 x2 : Int32} (a : tc h z DD N C) (hq : ∀ (v : Int32) h', ax_same md_F h h' → Ret (some (.int v)) h') : mX10_ruling g [.ref 77, .int x1, .int x2] h Ret := by
  obtain ⟨a1, T1, hs1⟩ := q_code (v := 0) a.2.1 a.2.2.2.1
  refine uX10_ruling (fun A hA => vX10_ruling_0 hA ⟨a.2.1.1, ?_⟩)
  intro h1
  refine c_min ⟨_, rfl, fun _ => hq _ _ hs1, fun _ => ⟨a1.1, q_hand a1 T1 a.2.2.2.2 (fun _ => ⟨_, rfl, fun q => absurd rfl q, fun _ => hq _ _ hs1⟩) (fun k hk ex ok h' hs hm => ⟨_, rfl, fun _ => ?_, fun q => absurd q (by decide)⟩)⟩⟩
  have M0 := sM_hm ok (sm_tr hs1 hs) hm
  have key : ∀ n i : Nat, i + n = 18 → ∀ h3, sM h h3 k (DD k) → ∀ (x3 : Int32) (x4 : Int64) (o7 o8 : Option Value), bL 1391569403904 x4 → A (34, [some (.ref 77), some (.int x1), some (.int x2), some (.int x3), some (.long x4), none, some (.int (nI i)), o7, o8], [], h3, 0, 0) := by
    intro n
    induction n with
    | zero =>
      intro i hi h3 M x3 x4 o7 o8 b4
      have big : -9223372036854775808 < x4.toInt := by unfold bL at b4; omega
      obtain ⟨mo, mb⟩ := M.2.1
      refine vX10_ruling_34 hA ⟨fun _ => ⟨mb.1.1, ?_⟩, fun q => absurd (nI_le (a := 18) (b := i) (by omega) (by omega)) q⟩
      intro u8
      have M8 : sM h u8 k (DD k) := sM_f M (Or.inl rfl)
      obtain ⟨x, mw⟩ := M8.2.2.1
      have fin : ∀ v : Int32, Ret (some (.int v)) u8 := fun v => hq v u8 M8.1
      have tp : 0 < (sp_t (DD k) x).toInt64.toInt := by rw [i_64]; exact (sp_t_bd ok x).1
      refine ⟨fun _ => ⟨fun _ => ⟨mb.1.1, fun _ => ?_, fun _ => ?_⟩, fun _ => ⟨by decide, fin _⟩⟩, fun _ => ⟨by decide, fin _⟩⟩
      · rw [mw.2.1]; exact c_part big tp ⟨_, rfl, fin _⟩
      · rw [mw.2.1]; exact c_part big tp ⟨_, rfl, fin _⟩
    | succ n ih =>
      intro i hi h3 M x3 x4 o7 o8 b4
      obtain ⟨mo, mb⟩ := M.2.1
      refine vX10_ruling_34 hA ⟨fun q => absurd q (nI_ge (a := i) (b := 18) (by omega) (by decide)), fun _ => ⟨by decide, mb.1.1, ?_⟩⟩
      intro u15
      refine ⟨by decide, mb.1.1, ?_⟩
      intro u16
      have M16 : sM h u16 k (DD k) := sM_f (sM_f M (Or.inl rfl)) (Or.inr rfl)
      refine ⟨mb.1.1, t_allMeans ok M16 (fun v h5 bv M5 => ⟨_, rfl, ?_⟩)⟩
      have K : ∀ (x3 : Int32) (x4 : Int64) (o7 o8 : Option Value), bL 1391569403904 x4 → A (34, [some (.ref 77), some (.int x1), some (.int x2), some (.int x3), some (.long x4), none, some (.int (nI i + 1)), o7, o8], [], h5, 0, 0) := fun x3 x4 o7 o8 b => by rw [← nI_succ]; exact ih (i + 1) (by omega) h5 M5 _ _ _ _ b
      exact ⟨fun _ => ⟨fun _ => K _ _ _ _ b4, fun _ => K _ _ _ _ bv⟩, fun _ => ⟨fun _ => ⟨fun _ => K _ _ _ _ b4, fun _ => K _ _ _ _ bv⟩, fun _ => ⟨fun _ => K _ _ _ _ b4, fun _ => K _ _ _ _ bv⟩⟩⟩
  exact key 18 0 (by decide) h' M0 _ _ _ _ (by unfold bL; decide)
theorem n_ruling (a : IV h S Im tp) (b : 103 ≤ h.1 ∧ h.1 ≤ B) (x1 x2 : Int32) : prN (mX9_ruling g) (mX10_ruling g) [.ref 0, .int x1, .int x2] [.ref 77, .int x1, .int x2] h (inv B) := pr_n a b (fun Ret k => t9_ruling (iv_tc a) k) (fun h1 Ret a1 k => t10_ruling (iv_tc a1) k)
end
end

section
section
variable {g : ax_G} {Ret : Option Value → ax_H → Prop} {h : ax_H} {z : Nat → Nat} {DD : Nat → rD} {N : Nat → Nat → Nat} {C : Nat → Nat → Nat → Nat → Int32} {S : sT} {Im : Nat → Option sT} {tp : Nat → Nat} {B : Nat}
/-! the planner -/
def chF : Nat → Prop := fun a => a = 59 ∨ a = 61 ∨ a = 62 ∨ a = 63
def chR (h h' : ax_H) : Prop := ax_same chF h h' ∧ ∀ j, j ≠ 4 → ax_l h' 59 j = ax_l h 59 j
theorem chR_rf : chR h h := ⟨sm_rf, fun _ _ => rfl⟩
theorem chR_tr {h1 h2 : ax_H} (a : chR h h1) (b : chR h1 h2) : chR h h2 := ⟨sm_tr a.1 b.1, fun j hj => (b.2 j hj).trans (a.2 j hj)⟩
theorem chR_l {a k : Nat} {v : Int64} (ha : a = 62 ∨ a = 63) : chR h (ax_pl h a k v) := ⟨sm_pl (by unfold chF; omega), fun j _ => by rw [al_pl, if_neg (by omega)]⟩
theorem chR_4 {v : Int64} : chR h (ax_pl h 59 4 v) := ⟨sm_pl (Or.inl rfl), fun j hj => by rw [al_pl, if_neg (by omega)]⟩
theorem chR_61 {k : Nat} {v : Int32} : chR h (ax_pi h 61 k v) := ⟨sm_pi (Or.inr (Or.inl rfl)), fun _ _ => rfl⟩
theorem sh_1 : ∀ n, n ≤ 6 → (1 : Int32) <<< (nI n &&& 31) = nI (2 ^ n) := by decide +kernel
theorem xo_1 : ∀ s, s < 64 → ∀ i, i < 6 → (nI s ^^^ ((1 : Int32) <<< (nI i &&& 31))) = nI (s ^^^ 2 ^ i) ∧ s ^^^ 2 ^ i < 64 := by decide +kernel
theorem shr24 (x : Int64) : bL 549755813888 (x >>> ((24 : Int32).toInt64 &&& 63)) := by
  have e : (x >>> ((24 : Int32).toInt64 &&& 63)).toInt = x.toInt >>> 24 := by
    show (x >>> ((24 : Int32).toInt64 &&& 63)).toBitVec.toInt = _
    rw [Int64.toBitVec_shiftRight, show (((24 : Int32).toInt64 &&& 63).toBitVec.smod 64) = 24#64 from by decide +kernel]
    show (x.toBitVec.sshiftRight 24).toInt = _
    rw [BitVec.toInt_sshiftRight]; rfl
  have b := l_bd x
  unfold bL
  rw [e, Int.shiftRight_eq_div_pow]
  omega
theorem c_keep4 {x : Int64} (pl : pl_st h 59) (hq : ∀ h', chR h h' → bL 549755813888 (ax_l h' 59 4) → Ret none h') : mX4_keep g [.ref 59, .long x] h Ret := by
  refine uX4_keep (fun A hA => vX4_keep_0 hA ?_)
  intro z1
  refine ⟨pl.1, ?_⟩
  intro u2
  refine ⟨pl.1, ?_⟩
  have key : ∀ n i : Nat, i + n = 6 → ∀ hh, chR h hh → bL 549755813888 (ax_l hh 59 4) → ∀ (x3 : Int64) (o1 o2 : Option Value), A (27, [some (.ref 59), o1, o2, some (.long x3), none, some (.int (nI i))], [], hh, 0, 0) := by
    intro n
    induction n with
    | zero =>
      intro i hi hh r b x3 o1 o2
      exact vX4_keep_27 hA ⟨fun _ => hq hh r b, fun q => absurd (nI_le (a := 6) (b := i) (by omega) (by omega)) q⟩
    | succ n ih =>
      intro i hi hh r b x3 o1 o2
      have p := pl_st_same r.1 pl
      refine vX4_keep_27 hA ⟨fun q => absurd q (nI_ge (a := i) (b := 6) (by omega) (by decide)), fun _ => ⟨p.1, _, p.2.1.2.1, eX4_rowShift ⟨_, rfl, by rw [p.2.2.2.1], by rw [p.2.2.2.1]; exact vp_in_nI (by omega) (by decide), ?_⟩⟩⟩
      intro u7
      rw [← nI_succ]
      exact ih (i + 1) (by omega) u7 (chR_tr r chR_61) b _ _ _
  exact key 6 0 (by decide) u2 chR_4 (by show bL _ (ax_l (ax_pl h 59 4 z1) 59 4); rw [al_pl, if_pos ⟨rfl, rfl⟩]; exact shr24 _) _ _ _
theorem c_bestOf {s n : Nat} (pl : pl_st h 59) (hs : s < 64) (hn : n ≤ 6) (hq : ∀ v : Int64, Ret (some (.long v)) h) : mX4_bestOf g [.ref 59, .int (nI s), .int (nI n)] h Ret := by
  have v64 : ∀ {a : Nat}, a < 64 → vp_in (nI a) (ax_s h (59 + 3)).2 := fun ha => by rw [pl.2.2.2.2.1]; exact vp_in_nI ha (by decide)
  have s62 : (ax_s h (59 + 3)).1 = 14 := by rw [pl.2.2.2.2.1]
  have s63 : (ax_s h (59 + 4)).1 = 14 := by rw [pl.2.2.2.2.2.1]
  refine uX4_bestOf (fun A hA => vX4_bestOf_0 hA ⟨pl.1, _, pl.2.1.2.2.1, s62, v64 hs, ?_⟩)
  have key : ∀ m i : Nat, i + m = n → ∀ (x3 : Int64) (o6 : Option Value), A (10, [some (.ref 59), some (.int (nI s)), some (.int (nI n)), some (.long x3), none, some (.int (nI i)), o6], [], h, 0, 0) := by
    intro m
    induction m with
    | zero =>
      intro i hi x3 o6
      exact vX4_bestOf_10 hA ⟨fun _ => hq _, fun q => absurd (nI_le (by omega) (by omega)) q⟩
    | succ m ih =>
      intro i hi x3 o6
      have v6 : vp_in (nI i) (ax_s h (59 + 4)).2 := by rw [pl.2.2.2.2.2.1]; exact vp_in_nI (by omega) (by decide)
      have vx : vp_in (nI s ^^^ ((1 : Int32) <<< (nI i &&& 31))) (ax_s h (59 + 3)).2 := by rw [(xo_1 s hs i (by omega)).1]; exact v64 (xo_1 s hs i (by omega)).2
      have K : ∀ (x3 : Int64) (o6 : Option Value), A (10, [some (.ref 59), some (.int (nI s)), some (.int (nI n)), some (.long x3), none, some (.int (nI i + 1)), o6], [], h, 0, 0) := fun x3 o6 => by rw [← nI_succ]; exact ih (i + 1) (by omega) _ _
      exact vX4_bestOf_10 hA ⟨fun q => absurd q (nI_ge (by omega) (by omega)), fun _ => ⟨fun _ => K _ _, fun _ => ⟨pl.1, _, pl.2.1.2.2.2.1, s63, v6, fun _ => K _ _, fun _ => ⟨pl.1, _, pl.2.1.2.2.1, s62, vx, fun _ => K _ _, fun _ => ⟨pl.1, _, pl.2.1.2.2.1, s62, vx, pl.1, _, pl.2.1.2.2.2.1, s63, v6, K _ _⟩⟩⟩⟩⟩
  exact key n 0 (by omega) _ _
section
variable {r l n o H2 : Nat} {D : rD} {C1 : Nat → Nat → Int32} {w : Nat → Int32} {t : Int32}
theorem c_scoreOf {q : Nat} {x y : Int32} (rc : rc_at h r D) (od : od_at h o H2 w t) (hq0 : q < 12) (hq : ∀ v : Int64, Ret (some (.long v)) h) : mX4_scoreOf g [.ref r, .ref o, .int x, .int y, .int (nI q)] h Ret := eX4_scoreOf ⟨rc.1.1, c_worthOf rc ⟨_, rfl, od.1.1, rc.1.1, c_extraOf rc ⟨_, rfl, od.1.1, _, od.1.2.1, by rw [od.1.2.2], by rw [od.1.2.2]; exact vp_in_nI hq0 (by decide), eX4_rowShift ⟨_, rfl, hq _⟩⟩⟩⟩
theorem c_choose {x : Int32} (pl : pl_st h 59) (rc : rc_at h r D) (hr : r + 6 ≤ 59) (od : od_at h o H2 w t) (ho : o = 55 ∨ o = 64) (L : li_at h l 2 n C1) (hl : l + 2 ≤ 59) (h0 : ∀ h', chR h h' → Ret (some (.int 0)) h') (h1 : ∀ h', chR h h' → bL 549755813888 (ax_l h' 59 4) → Ret (some (.int 1)) h') : mX4_choose g [.ref 59, .ref r, .ref o, .ref l, .int x] h Ret := by
  have n6 : n ≤ 6 := L.2.1
  have H12 := rc.2.1.1
  have p2 : ∀ m, m ≤ 6 → 1 ≤ 2 ^ m ∧ 2 ^ m ≤ 64 := by decide
  have pn := p2 n n6
  have kp : ∀ hh, chR h hh → pl_st hh 59 ∧ rc_at hh r D ∧ od_at hh o H2 w t ∧ li_at hh l 2 n C1 := fun hh c => ⟨pl_st_same c.1 pl, rc_at_same c.1 (fun j hj q => by unfold chF at q; omega) rc, od_at_same c.1 (by refine ⟨?_, ?_⟩ <;> (intro q; unfold chF at q; omega)) od, li_at_same c.1 (by refine ⟨?_, ?_⟩ <;> (intro q; unfold chF at q; omega)) L⟩
  refine uX4_choose (fun A hA => vX4_choose_0 hA ⟨L.1.1, ?_⟩)
  rw [L.2.2.1, if_neg (show ¬ (6 : Int32) < nI n from nI_nlt (a := 6) (b := n) n6 (by decide)), sh_1 n n6]
  have ea : nI (2 ^ n) - 1 = nI (2 ^ n - 1) := by
    obtain ⟨j, hj⟩ : ∃ j, 2 ^ n = j + 1 := ⟨2 ^ n - 1, by omega⟩
    rw [hj]; exact nI_pred j
  intro z1
  rw [show z1 - 1 = nI (2 ^ n - 1) from ea]
  have k55 : ∀ m i : Nat, i + m = dH D → ∀ hh, chR h hh → ∀ o8 o9 : Option Value, A (55, [some (.ref 59), some (.ref r), some (.ref o), some (.ref l), some (.int x), some (.int (nI n)), some (.int (nI (2 ^ n - 1))), some (.int (nI i)), o8, o9], [], hh, 0, 0) := by
    intro m
    induction m with
    | zero =>
      intro i hi hh c o8 o9
      obtain ⟨p, rc, od, L⟩ := kp hh c
      have s62 : (ax_s hh (59 + 3)).1 = 14 := by rw [p.2.2.2.2.1]
      have v64 : vp_in (nI (2 ^ n - 1)) (ax_s hh (59 + 3)).2 := by rw [p.2.2.2.2.1]; exact vp_in_nI (by omega) (by decide)
      refine vX4_choose_55 hA ⟨rc.1.1, fun _ => ⟨p.1, _, p.2.1.2.2.1, s62, v64, fun _ => ⟨p.1, _, p.2.1.2.2.1, s62, v64, p.1, c_keep4 p (fun h2 c2 b2 => ⟨rfl, Or.inr rfl, h1 h2 (chR_tr c c2) b2⟩)⟩, fun _ => ⟨Or.inl rfl, h0 hh c⟩⟩, fun q => ?_⟩
      rw [rc.2.2.1.1] at q; exact absurd (nI_le (by omega) (by omega)) q
    | succ m ih =>
      intro i hi hh c o8 o9
      obtain ⟨p, rc, od, L⟩ := kp hh c
      have k154 : ∀ f h3, f ≤ 2 ^ n - 1 → chR h h3 → ∀ o9 : Option Value, A (154, [some (.ref 59), some (.ref r), some (.ref o), some (.ref l), some (.int x), some (.int (nI n)), some (.int (nI (2 ^ n - 1))), some (.int (nI i)), some (.int (nI f)), o9], [], h3, 0, 0) := by
        intro f
        induction f with
        | zero =>
          intro h3 hf c3 o9
          refine vX4_choose_154 hA ⟨fun _ => ?_, fun q => absurd (by rw [nI_0]; decide) q⟩
          rw [← nI_succ]; exact ih (i + 1) (by omega) h3 c3 _ _
        | succ f ihf =>
          intro h3 hf c3 o9
          have p3 := (kp h3 c3).1
          refine vX4_choose_154 hA ⟨fun q => absurd q (nI_nle (by omega) (by omega)), fun _ => ⟨p3.1, _, p3.2.1.2.2.1, p3.1, c_bestOf p3 (by omega) n6 (fun v => ⟨_, rfl, by rw [p3.2.2.2.2.1], by rw [p3.2.2.2.2.1]; exact vp_in_nI (by omega) (by decide), ?_⟩)⟩⟩
          intro u56
          rw [show nI (f + 1) + (-1) = nI f from by rw [nI_succ, Int32.add_assoc, show (1 : Int32) + (-1) = 0 from by decide, Int32.add_zero]]
          exact ihf u56 (by omega) (chR_tr c3 (chR_l (Or.inl rfl))) _
      have k67 : ∀ f j : Nat, j + f = n → ∀ h3, chR h h3 → ∀ o9 : Option Value, A (67, [some (.ref 59), some (.ref r), some (.ref o), some (.ref l), some (.int x), some (.int (nI n)), some (.int (nI (2 ^ n - 1))), some (.int (nI i)), some (.int (nI j)), o9], [], h3, 0, 0) := by
        intro f
        induction f with
        | zero =>
          intro j hj h3 c3 o9
          exact vX4_choose_67 hA ⟨fun _ => k154 _ h3 (Nat.le_refl _) c3 _, fun q => absurd (nI_le (by omega) (by omega)) q⟩
        | succ f ihf =>
          intro j hj h3 c3 o9
          obtain ⟨p3, rc3, od3, L3⟩ := kp h3 c3
          have s63 : (ax_s h3 (59 + 4)).1 = 14 := by rw [p3.2.2.2.2.2.1]
          have v6 : vp_in (nI j) (ax_s h3 (59 + 4)).2 := by rw [p3.2.2.2.2.2.1]; exact vp_in_nI (by omega) (by decide)
          have K : ∀ (v : Int64) (o9 : Option Value), A (67, [some (.ref 59), some (.ref r), some (.ref o), some (.ref l), some (.int x), some (.int (nI n)), some (.int (nI (2 ^ n - 1))), some (.int (nI i)), some (.int (nI j + 1)), o9], [], ax_pl h3 63 (nI j).toNatClampNeg v, 0, 0) := fun v o9 => by rw [← nI_succ]; exact ihf (j + 1) (by omega) _ (chR_tr c3 (chR_l (Or.inr rfl))) _
          refine vX4_choose_67 hA ⟨fun q => absurd q (nI_ge (by omega) (by omega)), fun _ => ⟨fun _ => ⟨p3.1, _, p3.2.1.2.2.2.1, fun _ => ⟨s63, v6, K _ _⟩, fun _ => ⟨L3.1.1, c_lcell (by decide) (by decide) L3 ⟨_, rfl, c_scoreOf rc3 od3 (by omega) (fun v => ⟨_, rfl, s63, v6, K _ _⟩)⟩⟩⟩, fun _ => ⟨L3.1.1, c_lcell (by decide) (by decide) L3 ⟨_, rfl, fun _ => ⟨p3.1, _, p3.2.1.2.2.2.1, fun _ => ⟨s63, v6, K _ _⟩, fun _ => ⟨L3.1.1, c_lcell (by decide) (by decide) L3 ⟨_, rfl, c_scoreOf rc3 od3 (by omega) (fun v => ⟨_, rfl, s63, v6, K _ _⟩)⟩⟩⟩, fun _ => ⟨L3.1.1, c_lcell (by decide) (by decide) L3 ⟨_, rfl, fun _ => ⟨p3.1, _, p3.2.1.2.2.2.1, fun _ => ⟨s63, v6, K _ _⟩, fun _ => ⟨L3.1.1, c_lcell (by decide) (by decide) L3 ⟨_, rfl, c_scoreOf rc3 od3 (by omega) (fun v => ⟨_, rfl, s63, v6, K _ _⟩)⟩⟩⟩, fun _ => ⟨p3.1, _, p3.2.1.2.2.2.1, fun _ => ⟨s63, v6, K _ _⟩, fun _ => ⟨L3.1.1, c_lcell (by decide) (by decide) L3 ⟨_, rfl, c_scoreOf rc3 od3 (by omega) (fun v => ⟨_, rfl, s63, v6, K _ _⟩)⟩⟩⟩⟩⟩⟩⟩⟩⟩
      refine vX4_choose_55 hA ⟨rc.1.1, fun q => ?_, fun _ => k67 n 0 (by omega) hh c _⟩
      rw [rc.2.2.1.1] at q; exact absurd q (nI_ge (by omega) (by omega))
  have k22 : ∀ f j : Nat, j + f = 2 ^ n → ∀ hh, chR h hh → ∀ o8 o9 : Option Value, A (22, [some (.ref 59), some (.ref r), some (.ref o), some (.ref l), some (.int x), some (.int (nI n)), some (.int (nI (2 ^ n - 1))), some (.int (nI j)), o8, o9], [], hh, 0, 0) := by
    intro f
    induction f with
    | zero =>
      intro j hj hh c o8 o9
      have p := (kp hh c).1
      refine vX4_choose_22 hA ⟨fun _ => ⟨p.1, _, p.2.1.2.2.1, by rw [p.2.2.2.2.1], by rw [p.2.2.2.2.1]; exact vp_in_nI (n := 0) (by decide) (by decide), ?_⟩, fun q => absurd (nI_lt (by omega) (by omega)) q⟩
      intro u3
      exact k55 (dH D) 0 (by omega) u3 (chR_tr c (chR_l (Or.inl rfl))) _ _
    | succ f ih =>
      intro j hj hh c o8 o9
      have p := (kp hh c).1
      refine vX4_choose_22 hA ⟨fun q => absurd q (nI_nlt (by omega) (by omega)), fun _ => ⟨p.1, _, p.2.1.2.2.1, by rw [p.2.2.2.2.1], by rw [p.2.2.2.2.1]; exact vp_in_nI (by omega) (by decide), ?_⟩⟩
      intro u5
      rw [← nI_succ]
      exact ih (j + 1) (by omega) u5 (chR_tr c (chR_l (Or.inl rfl))) _ _
  exact k22 (2 ^ n - 1) 1 (by omega) h chR_rf _ _
end
end
end

section
section
variable {g : ax_G} {Ret : Option Value → ax_H → Prop} {h : ax_H} {z : Nat → Nat} {DD : Nat → rD} {N : Nat → Nat → Nat} {C : Nat → Nat → Nat → Nat → Int32} {S : sT} {Im : Nat → Option sT} {tp : Nat → Nat} {B : Nat}
/-! PLAN and FREE, of the class -/
def plF : Nat → Prop := fun a => 59 ≤ a ∧ a ≤ 65
theorem ch_pl {h' : ax_H} (c : chR h h') : ax_same plF h h' := sm_mono c.1 (fun x e => by unfold chF at e; unfold plF; omega)
theorem pl_cl {h' : ax_H} (s : ax_same plF h h') : ax_same cl_F h h' := sm_mono s (fun x e => by unfold plF at e; unfold cl_F; omega)
section
variable {r l n H2 : Nat} {D : rD} {C1 : Nat → Nat → Int32} {w : Nat → Int32} {t : Int32}
theorem pl_kp {h' : ax_H} (s : ax_same plF h h') (pl : pl_st h 59) (rc : rc_at h r D) (hr : r + 6 ≤ 59) (od : od_at h 55 H2 w t) (L : li_at h l 2 n C1) (hl : l + 2 ≤ 59) : pl_st h' 59 ∧ rc_at h' r D ∧ od_at h' 55 H2 w t ∧ li_at h' l 2 n C1 := ⟨pl_st_same s pl, rc_at_same s (fun j hj q => by unfold plF at q; omega) rc, od_at_same s (by refine ⟨?_, ?_⟩ <;> (intro q; unfold plF at q; omega)) od, li_at_same s (by refine ⟨?_, ?_⟩ <;> (intro q; unfold plF at q; omega)) L⟩
theorem c_planBlind (pl : pl_st h 59) (rc : rc_at h r D) (hr : r + 6 ≤ 59) (od : od_at h 55 H2 w t) (L : li_at h l 2 n C1) (hl : l + 2 ≤ 59) (h0 : ∀ h', ax_same plF h h' → Ret (some (.int 0)) h') (h1 : ∀ h', ax_same plF h h' → bL 549755813888 (ax_l h' 59 1) → Ret (some (.int 1)) h') : mX4_planBlind g [.ref 59, .ref r, .ref 55, .ref l] h Ret := by
  refine eX4_planBlind ⟨pl.1, c_choose pl rc hr od (Or.inl rfl) L hl (fun h2 c2 => ⟨_, rfl, fun q => absurd rfl q, fun _ => ⟨Or.inl rfl, h0 h2 (ch_pl c2)⟩⟩) (fun h2 c2 b2 => ⟨_, rfl, fun _ => ?_, fun q => absurd q (by decide)⟩)⟩
  have p := pl_st_same c2.1 pl
  refine ⟨p.1, p.1, ?_⟩
  intro u4
  have p4 : pl_st u4 59 := p
  refine ⟨p4.1, _, p4.2.1.2.1, p4.1, _, p4.2.1.1, by rw [p4.2.2.1], by rw [p4.2.2.2.1], ⟨by decide, by decide, by decide, by rw [p4.2.2.2.1]; decide, by rw [p4.2.2.1]; decide⟩, Or.inl rfl, by decide, ?_⟩
  intro u7
  refine ⟨Or.inr rfl, h1 u7 (sm_tr (ch_pl c2) (sm_tr (sm_pl ⟨Nat.le_refl _, by decide⟩) (sm_row ⟨by decide, by decide⟩))) ?_⟩
  show bL _ (ax_l (ax_pl h2 59 1 (ax_l h2 59 4)) 59 1)
  rw [al_pl, if_pos ⟨rfl, rfl⟩]; exact b2
theorem c_blindBy {x : Int32} (pl : pl_st h 59) (rc : rc_at h r D) (L : li_at h l 2 n C1) (hq : ∀ v : Int64, Ret (some (.long v)) h) : mX4_blindBy g [.ref 59, .ref r, .ref l, .int x] h Ret := by
  have n6 : n ≤ 6 := L.2.1
  refine uX4_blindBy (fun A hA => vX4_blindBy_0 hA ?_)
  have key : ∀ m i : Nat, i + m = n → ∀ (x4 : Int64) (o7 : Option Value), A (6, [some (.ref 59), some (.ref r), some (.ref l), some (.int x), some (.long x4), none, some (.int (nI i)), o7], [], h, 0, 0) := by
    intro m
    induction m with
    | zero =>
      intro i hi x4 o7
      refine vX4_blindBy_6 hA ⟨L.1.1, fun _ => hq _, fun q => ?_⟩
      rw [L.2.2.1] at q; exact absurd (nI_le (by omega) (by omega)) q
    | succ m ih =>
      intro i hi x4 o7
      have K : ∀ (x4 : Int64) (o7 : Option Value), A (6, [some (.ref 59), some (.ref r), some (.ref l), some (.int x), some (.long x4), none, some (.int (nI i + 1)), o7], [], h, 0, 0) := fun x4 o7 => by rw [← nI_succ]; exact ih (i + 1) (by omega) _ _
      exact vX4_blindBy_6 hA ⟨L.1.1, fun _ => hq _, fun _ => ⟨fun _ => hq _, fun _ => ⟨L.1.1, c_lcell (by decide) (by decide) L ⟨_, rfl, rc.1.1, c_worthOf rc ⟨_, rfl, pl.1, _, pl.2.1.1, by rw [pl.2.2.1], by rw [pl.2.2.1]; exact vp_in_nI (by omega) (by decide), fun _ => K _ _, fun _ => ⟨rc.1.1, c_extraOf rc ⟨_, rfl, K _ _⟩⟩⟩⟩⟩⟩⟩
  exact key n 0 (by omega) _ _
theorem c_know {H : Nat} {x : Int32} (od : od_st h 64) (hH : H ≤ 12) (hq : ∀ h', ax_same (od_F 64) h h' → od_at h' 64 H (fun q => ax_i h' 65 q) 1 → Ret none h') : mX3_know g [.ref 64, .int (nI H), .int x] h Ret := by
  refine uX3_know (fun A hA => vX3_know_0 hA ⟨od.1, ?_⟩)
  intro u1
  refine ⟨od.1, ?_⟩
  intro u2
  have key : ∀ m i : Nat, i + m = H → ∀ hh, ax_same (od_F 64) h hh → ax_i hh 64 1 = nI H → ax_i hh 64 2 = 1 → ∀ o1 : Option Value, A (12, [some (.ref 64), o1, some (.int x), some (.int (nI i))], [], hh, 0, 0) := by
    intro m
    induction m with
    | zero =>
      intro i hi hh s e1 e2 o1
      have o := od_st_same s od
      refine vX3_know_12 hA ⟨o.1, fun _ => hq hh s ⟨o, hH, e1, e2, fun q _ => rfl⟩, fun q => ?_⟩
      rw [e1] at q; exact absurd (nI_le (by omega) (by omega)) q
    | succ m ih =>
      intro i hi hh s e1 e2 o1
      have o := od_st_same s od
      have v12 : vp_in (nI i) (ax_s hh (64 + 1)).2 := by rw [o.2.2]; exact vp_in_nI (by omega) (by decide)
      have s11 : (ax_s hh (64 + 1)).1 = 11 := by rw [o.2.2]
      have K : ∀ v : Int32, A (12, [some (.ref 64), o1, some (.int x), some (.int (nI i + 1))], [], ax_pi hh 65 (nI i).toNatClampNeg v, 0, 0) := fun v => by
        rw [← nI_succ]
        exact ih (i + 1) (by omega) _ (sm_tr s (sm_pi (Or.inr rfl))) (by rw [ai_pi, if_neg (by omega)]; exact e1) (by rw [ai_pi, if_neg (by omega)]; exact e2) _
      refine vX3_know_12 hA ⟨o.1, fun q => ?_, fun _ => ⟨o.1, _, o.2.1, fun _ => ⟨s11, v12, K _⟩, fun _ => ⟨s11, v12, K _⟩⟩⟩
      rw [e1] at q; exact absurd q (nI_ge (by omega) (by omega))
  refine key H 0 (by omega) u2 (sm_tr (sm_pi (Or.inl rfl)) (sm_pi (Or.inl rfl))) ?_ ?_ _
  · show ax_i (ax_pi (ax_pi h 64 1 (nI H)) 64 2 1) 64 1 = nI H
    rw [ai_pi, if_neg (by decide), ai_pi, if_pos ⟨rfl, rfl⟩]
  · show ax_i (ax_pi (ax_pi h 64 1 (nI H)) 64 2 1) 64 2 = 1
    rw [ai_pi, if_pos ⟨rfl, rfl⟩]
theorem c_planKnowing (pl : pl_st h 59) (rc : rc_at h r D) (hr : r + 6 ≤ 59) (od : od_at h 55 (dH D) w t) (hw : ∀ q, 0 ≤ (w q).toInt ∧ (w q).toInt ≤ 9) (L : li_at h l 2 n C1) (hl : l + 2 ≤ 59) (b1 : bL 549755813888 (ax_l h 59 1)) (hq : ∀ h', ax_same plF h h' → bL 549755813888 (ax_l h' 59 1) → bL 59373627899904 (ax_l h' 59 2) → Ret none h') : mX4_planKnowing g [.ref 59, .ref r, .ref 55, .ref l] h Ret := by
  have H12 := rc.2.1.1
  refine uX4_planKnowing (fun A hA => vX4_planKnowing_0 hA ⟨pl.1, ?_⟩)
  intro u1
  refine ⟨pl.1, ?_⟩
  intro u2
  have key : ∀ m i : Nat, i + m = dH D → ∀ hh, ax_same plF h hh → bL 549755813888 (ax_l hh 59 1) → bL (4947802324992 * i) (ax_l hh 59 2) → ∀ (x4 : Int64) (o7 o8 : Option Value), A (16, [some (.ref 59), some (.ref r), some (.ref 55), some (.ref l), some (.long x4), none, some (.int (nI i)), o7, o8], [], hh, 0, 0) := by
    intro m
    induction m with
    | zero =>
      intro i hi hh s c1 c2 x4 o7 o8
      obtain ⟨p, rc, od, L⟩ := pl_kp s pl rc hr od L hl
      refine vX4_planKnowing_16 hA ⟨rc.1.1, fun _ => hq hh s c1 (bL_mono c2 (by omega)), fun q => ?_⟩
      rw [rc.2.2.1.1] at q; exact absurd (nI_le (by omega) (by omega)) q
    | succ m ih =>
      intro i hi hh s c1 c2 x4 o7 o8
      obtain ⟨p, rc1, od1, L1⟩ := pl_kp s pl rc hr od L hl
      refine vX4_planKnowing_16 hA ⟨rc1.1.1, fun q => ?_, fun _ => ⟨p.1, _, p.2.1.2.2.2.2, rc1.1.1, p.2.2.2.2.2.2.1, ?_⟩⟩
      · rw [rc1.2.2.1.1] at q; exact absurd q (nI_ge (by omega) (by omega))
      · rw [rc1.2.2.1.1]
        refine c_know p.2.2.2.2.2.2 H12 (fun h2 s2 kn => ⟨rfl, ?_⟩)
        have sp2 : ax_same plF hh h2 := sm_mono s2 (fun x e => by unfold od_F at e; unfold plF; omega)
        have k1 : ∀ j, ax_l h2 59 j = ax_l hh 59 j := fun j => (s2.2.2.2 59 (by unfold od_F; decide)).2 j
        obtain ⟨p2, rc2, od2, L2⟩ := pl_kp (sm_tr s sp2) pl rc hr od L hl
        have s11 : (ax_s h2 (55 + 1)).1 = 11 := by rw [od2.1.2.2]
        have v12 : vp_in (nI i) (ax_s h2 (55 + 1)).2 := by rw [od2.1.2.2]; exact vp_in_nI (by omega) (by decide)
        refine ⟨od2.1.1, _, od2.1.2.1, s11, v12, fun _ => ?_, fun _ => ⟨p2.1, _, p2.2.1.2.2.2.2, p2.1, c_choose p2 rc2 hr kn (Or.inr rfl) L2 hl (fun h3 c3 => ⟨_, rfl, fun q => absurd rfl q, fun _ => ?_⟩) (fun h3 c3 b3 => ⟨_, rfl, fun _ => ?_, fun q => absurd q (by decide)⟩)⟩⟩
        · rw [← nI_succ]
          exact ih (i + 1) (by omega) h2 (sm_tr s sp2) (by rw [k1]; exact c1) (by rw [k1]; exact bL_mono c2 (by omega)) _ _ _
        · rw [← nI_succ]
          exact ih (i + 1) (by omega) h3 (sm_tr (sm_tr s sp2) (ch_pl c3)) (by rw [c3.2 1 (by decide), k1]; exact c1) (by rw [c3.2 2 (by decide), k1]; exact bL_mono c2 (by omega)) _ _ _
        · obtain ⟨p3, rc3, od3, L3⟩ := pl_kp (sm_tr (sm_tr s sp2) (ch_pl c3)) pl rc hr od L hl
          have t11 : (ax_s h3 (55 + 1)).1 = 11 := by rw [od3.1.2.2]
          have w12 : vp_in (nI i) (ax_s h3 (55 + 1)).2 := by rw [od3.1.2.2]; exact vp_in_nI (by omega) (by decide)
          refine ⟨rfl, p3.1, od3.1.1, _, od3.1.2.1, t11, w12, p3.1, ?_⟩
          intro z12
          have bz : bL (4947802324992 * (i + 1)) z12 := by
            show bL _ (ax_l h3 59 2 + (ax_i h3 (55 + 1) (nI i).toNatClampNeg).toInt64 * ax_l h3 59 4)
            rw [nI_clamp (by omega), od3.2.2.2.2 i (by omega), c3.2 2 (by decide), k1]
            have bw := hw i
            exact bL_mono (bL_add c2 (bL_mul (a := 9) (b := 549755813888) (by decide) (by decide) (bL_32 (x := w i) (by omega)) b3 (by decide)) (by omega)) (by omega)
          refine ⟨p3.1, ?_⟩
          intro u13
          have s13 : ax_same plF h u13 := sm_tr (sm_tr (sm_tr s sp2) (ch_pl c3)) (sm_pl ⟨Nat.le_refl _, by decide⟩)
          obtain ⟨p4, rc4, od4, L4⟩ := pl_kp s13 pl rc hr od L hl
          have d1 : bL 549755813888 (ax_l u13 59 1) := by
            show bL _ (ax_l (ax_pl h3 59 2 z12) 59 1)
            rw [al_pl, if_neg (by decide), c3.2 1 (by decide), k1]; exact c1
          have d2 : bL (4947802324992 * (i + 1)) (ax_l u13 59 2) := by
            show bL _ (ax_l (ax_pl h3 59 2 z12) 59 2)
            rw [al_pl, if_pos ⟨rfl, rfl⟩]; exact bz
          refine ⟨p4.1, p4.1, c_blindBy p4 rc4 L4 (fun v => ⟨_, rfl, fun _ => ?_, fun _ => ⟨p4.1, ?_⟩⟩)⟩
          · rw [← nI_succ]
            exact ih (i + 1) (by omega) u13 s13 d1 (bL_mono d2 (by omega)) _ _ _
          · intro u17
            rw [← nI_succ]
            exact ih (i + 1) (by omega) u17 (sm_tr s13 (sm_pi ⟨Nat.le_refl _, by decide⟩)) d1 (bL_mono d2 (by omega)) _ _ _
  exact key (dH D) 0 (by omega) u2 (sm_tr (sm_pl ⟨Nat.le_refl _, by decide⟩) (sm_pi ⟨Nat.le_refl _, by decide⟩)) (by show bL _ (ax_l (ax_pl h 59 2 0) 59 1); rw [al_pl, if_neg (by decide)]; exact b1) (by show bL _ (ax_l (ax_pl h 59 2 0) 59 2); rw [al_pl, if_pos ⟨rfl, rfl⟩]; unfold bL; decide) _ _ _
end
theorem t9_plan {x1 x2 x3 : Int32} (a : tc h z DD N C) (pl : pl_st h 59) (hq : ∀ (v : Int32) h', ax_same cl_F h h' → Ret (some (.int v)) h') : mX9_plan g [.ref 0, .int x1, .int x2, .int x3] h Ret := by
  refine eX9_plan ⟨a.1.1, q_begun a (fun q => Or.inr ⟨rfl, a.1.1, _, a.1.2.1.1, a.2.2.1.1.1, c_linesAt (s0 := 2) a.2.2.1 (by decide) (by decide) (fun _ => Or.inr ⟨rfl, hq _ h sm_rf⟩) (fun k hk ex => Or.inl ⟨_, rfl, hq _ h sm_rf⟩)⟩) (fun k hk ex ok h' hs xs hc => Or.inl ⟨_, rfl, ?_⟩)⟩
  have b := tc_cl hs a
  have k2 : k < 2 := by have := a.2.2.2.2.1 0 (by decide); omega
  refine ⟨b.1.1, _, b.1.2.1.1, b.2.2.1.1.1, c_linesAt (s0 := 2) b.2.2.1 (by decide) (by decide) (fun _ => Or.inr ⟨rfl, hq _ h' hs⟩) (fun w hw ew => Or.inl ⟨_, rfl, ?_⟩)⟩
  have w2 : w < 2 := by have := a.2.2.2.2.1 2 (by decide); omega
  have L := b.2.2.1.2.2.2 2 w (by decide) (by decide) hw
  have p := pl_st_same hs pl
  have hr : 6 + 14 * k + 6 ≤ 59 := by omega
  have hl : lnp 1 2 w + 2 ≤ 59 := by unfold lnp; omega
  refine ⟨b.1.1, _, b.1.2.1.2.2.2.2.2.2.1, b.1.1, _, b.1.2.1.2.2.2.2.1, p.1, c_planBlind p hc.1 hr hc.2.2 L hl (fun h2 s2 => ⟨_, rfl, fun q => absurd rfl q, fun _ => hq _ h2 (sm_tr hs (pl_cl s2))⟩) (fun h2 s2 b2 => ⟨_, rfl, fun _ => ?_, fun q => absurd q (by decide)⟩)⟩
  obtain ⟨p2, rc2, od2, L2⟩ := pl_kp s2 p hc.1 hr hc.2.2 L hl
  have x2' := xs_st_same s2 xs
  have fin : ∀ (v : Int32) h3, ax_same plF h2 h3 → Ret (some (.int v)) h3 := fun v h3 s3 => hq v h3 (sm_tr hs (pl_cl (sm_tr s2 s3)))
  have r0 := x2'.1
  have r6 := x2'.2.1.2.2.2.2.2.2.1
  have r4 := x2'.2.1.2.2.2.2.1
  have side : ∀ (u : Int32) (v : Int64) h3, ax_same plF h2 h3 → bL 59923383713792 v → mX1_side g [.long v, .long (sp_t (DD k) (rul (DD k))).toInt64, .int u] h3 (fun v16 h15 => ∃ r17 : Int64, v16 = some (.long r17) ∧ Ret (some (.int r17.toInt32)) h15) := fun u v h3 s3 bv => c_side (by unfold bL at bv; omega) (t_pos ok) ⟨_, rfl, fin _ h3 s3⟩
  have kn : ∀ K : Option Value → ax_H → Prop, (∀ h3, ax_same plF h2 h3 → xs_st h3 → pl_st h3 59 → od_at h3 55 (dH (DD k)) (sp_w (DD k) (rul (DD k))) (sp_t (DD k) (rul (DD k))) → bL 549755813888 (ax_l h3 59 1) → bL 59373627899904 (ax_l h3 59 2) → K none h3) → mX4_planKnowing g [.ref 59, .ref (6 + 14 * k), .ref 55, .ref (lnp 1 2 w)] h2 K := fun K hK => c_planKnowing p2 rc2 hr od2 (fun q => sp_w_bd ok _ q) L2 hl b2 (fun h3 s3 c1 c2 => hK h3 s3 (xs_st_same s3 x2') (pl_st_same s3 p2) (od_at_same s3 (by refine ⟨?_, ?_⟩ <;> (intro q; unfold plF at q; omega)) od2) c1 c2)
  refine ⟨fun _ => ⟨fun _ => ⟨r0, _, r6, p2.1, r0, _, r4, od2.1.1, ?_⟩, fun _ => ⟨fun _ => ⟨r0, _, r6, p2.1, r0, _, r4, od2.1.1, ?_⟩, fun _ => ⟨fun _ => ⟨r0, _, r6, r0, _, r4, p2.1, kn _ (fun h3 s3 x3 p3 o3 c1 c2 => ⟨rfl, x3.1, _, x3.2.1.2.2.2.2.2.2.1, p3.1, x3.1, _, x3.2.1.2.2.2.2.1, o3.1.1, ?_⟩)⟩, fun _ => ⟨fun _ => ⟨r0, _, r6, r0, _, r4, p2.1, kn _ (fun h3 s3 x3 p3 o3 c1 c2 => ⟨rfl, x3.1, _, x3.2.1.2.2.2.2.2.2.1, p3.1, x3.1, _, x3.2.1.2.2.2.2.1, o3.1.1, ?_⟩)⟩, fun _ => ⟨fun _ => ⟨r0, _, r6, r0, _, r4, p2.1, kn _ (fun h3 s3 x3 p3 o3 c1 c2 => ⟨rfl, x3.1, _, x3.2.1.2.2.2.2.2.2.1, p3.1, x3.1, _, x3.2.1.2.2.2.2.2.2.1, p3.1, x3.1, _, x3.2.1.2.2.2.2.1, o3.1.1, ?_⟩)⟩, fun _ => ⟨fun _ => ⟨r0, _, r6, r0, _, r4, p2.1, kn _ (fun h3 s3 x3 p3 o3 c1 c2 => ⟨rfl, x3.1, _, x3.2.1.2.2.2.2.2.2.1, p3.1, x3.1, _, x3.2.1.2.2.2.2.2.2.1, p3.1, x3.1, _, x3.2.1.2.2.2.2.1, o3.1.1, ?_⟩)⟩, fun _ => ⟨fun _ => ⟨r0, _, r6, r0, _, r4, p2.1, kn _ (fun h3 s3 x3 p3 o3 c1 c2 => ⟨rfl, x3.1, _, x3.2.1.2.2.2.2.2.2.1, p3.1, fin _ h3 s3⟩)⟩, fun _ => fin _ h2 sm_rf⟩⟩⟩⟩⟩⟩⟩, fun _ => ⟨L2.1.1, c_lhas L2 ⟨_, rfl, fun _ => fin _ h2 sm_rf, fun q => ⟨r0, _, r6, p2.1, _, p2.2.1.1, by rw [p2.2.2.1], ?_, fin _ h2 sm_rf⟩⟩⟩⟩
  · rw [od2.2.2.2.1]; exact ⟨fun _ => side _ _ h2 sm_rf (bL_mono b2 (by decide)), fun _ => side _ _ h2 sm_rf (bL_mono b2 (by decide))⟩
  · rw [od2.2.2.2.1]; exact ⟨fun _ => side _ _ h2 sm_rf (bL_mono b2 (by decide)), fun _ => side _ _ h2 sm_rf (bL_mono b2 (by decide))⟩
  · rw [o3.2.2.2.1]; exact ⟨fun _ => side _ _ h3 s3 (bL_mono c2 (by decide)), fun _ => side _ _ h3 s3 (bL_mono c2 (by decide))⟩
  · rw [o3.2.2.2.1]; exact ⟨fun _ => side _ _ h3 s3 (bL_mono c2 (by decide)), fun _ => side _ _ h3 s3 (bL_mono c2 (by decide))⟩
  · have bd : bL 59923383713792 (ax_l h3 59 2 - ax_l h3 59 1) := by unfold bL at *; rw [i64_sub (by omega) (by omega)]; omega
    rw [o3.2.2.2.1]; exact ⟨fun _ => side _ _ h3 s3 bd, fun _ => side _ _ h3 s3 bd⟩
  · have bd : bL 59923383713792 (ax_l h3 59 2 - ax_l h3 59 1) := by unfold bL at *; rw [i64_sub (by omega) (by omega)]; omega
    rw [o3.2.2.2.1]; exact ⟨fun _ => side _ _ h3 s3 bd, fun _ => side _ _ h3 s3 bd⟩
  · have n6 : N 2 w ≤ 6 := L2.2.1
    obtain ⟨j, hj, ej⟩ := sp_in_ix (by omega) (b2i_n0.mp q)
    rw [ej, p2.2.2.1]; exact vp_in_nI (by omega) (by decide)
theorem t9_free {x1 x2 x3 : Int32} (a : tc h z DD N C) (pl : pl_st h 59) (hq : ∀ (v : Int32) h', ax_same cl_F h h' → Ret (some (.int v)) h') : mX9_free g [.ref 0, .int x1, .int x2, .int x3] h Ret := by
  refine eX9_free ⟨a.1.1, q_begun a (fun q => Or.inr ⟨rfl, a.1.1, _, a.1.2.1.1, a.2.2.1.1.1, c_linesAt (s0 := 2) a.2.2.1 (by decide) (by decide) (fun _ => Or.inr ⟨rfl, hq _ h sm_rf⟩) (fun k hk ex => Or.inl ⟨_, rfl, hq _ h sm_rf⟩)⟩) (fun k hk ex ok h' hs xs hc => Or.inl ⟨_, rfl, ?_⟩)⟩
  have b := tc_cl hs a
  have k2 : k < 2 := by have := a.2.2.2.2.1 0 (by decide); omega
  refine ⟨b.1.1, _, b.1.2.1.1, b.2.2.1.1.1, c_linesAt (s0 := 2) b.2.2.1 (by decide) (by decide) (fun _ => Or.inr ⟨rfl, hq _ h' hs⟩) (fun w hw ew => Or.inl ⟨_, rfl, ?_⟩)⟩
  have w2 : w < 2 := by have := a.2.2.2.2.1 2 (by decide); omega
  have L := b.2.2.1.2.2.2 2 w (by decide) (by decide) hw
  have p := pl_st_same hs pl
  have hr : 6 + 14 * k + 6 ≤ 59 := by omega
  have hl : lnp 1 2 w + 2 ≤ 59 := by unfold lnp; omega
  refine ⟨b.1.1, _, b.1.2.1.2.2.2.2.2.2.1, b.1.1, _, b.1.2.1.2.2.2.2.1, p.1, c_planBlind p hc.1 hr hc.2.2 L hl (fun h2 s2 => ⟨_, rfl, fun q => absurd rfl q, fun _ => hq _ h2 (sm_tr hs (pl_cl s2))⟩) (fun h2 s2 b2 => ⟨_, rfl, fun _ => ?_, fun q => absurd q (by decide)⟩)⟩
  obtain ⟨p2, rc2, od2, L2⟩ := pl_kp s2 p hc.1 hr hc.2.2 L hl
  have x2' := xs_st_same s2 xs
  have fin : ∀ (v : Int32) h3, ax_same plF h2 h3 → Ret (some (.int v)) h3 := fun v h3 s3 => hq v h3 (sm_tr hs (pl_cl (sm_tr s2 s3)))
  refine ⟨x2'.1, _, x2'.2.1.2.2.2.2.2.2.1, x2'.1, _, x2'.2.1.2.2.2.2.1, p2.1, c_choose p2 rc2 hr od2 (Or.inl rfl) L2 hl (fun h3 c3 => ⟨_, rfl, fun q => absurd rfl q, fun _ => fin _ h3 (ch_pl c3)⟩) (fun h3 c3 b3 => ⟨_, rfl, fun _ => ?_, fun q => absurd q (by decide)⟩)⟩
  have x3' := xs_st_same c3.1 x2'
  have p3 := pl_st_same c3.1 p2
  have o3 := od_at_same (ch_pl c3) (by refine ⟨?_, ?_⟩ <;> (intro q; unfold plF at q; omega)) od2
  refine ⟨x3'.1, _, x3'.2.1.2.2.2.2.2.2.1, p3.1, x3'.1, _, x3'.2.1.2.2.2.2.2.2.1, p3.1, x3'.1, _, x3'.2.1.2.2.2.2.1, o3.1.1, ?_⟩
  rw [o3.2.2.2.1, c3.2 1 (by decide)]
  exact c_side (by unfold bL at *; rw [i64_sub (by omega) (by omega)]; omega) (t_pos ok) ⟨_, rfl, fin _ h3 (ch_pl c3)⟩
end
end

section
section
variable {g : ax_G} {Ret : Option Value → ax_H → Prop} {h : ax_H} {z : Nat → Nat} {DD : Nat → rD} {N : Nat → Nat → Nat} {C : Nat → Nat → Nat → Nat → Int32} {S : sT} {Im : Nat → Option sT} {tp : Nat → Nat} {B : Nat}
/-! FITS, of the class -/
def fF : Nat → Prop := fun a => a = 53 ∨ (66 ≤ a ∧ a ≤ 75)
def fS (h hh : ax_H) (dd : Nat) (D : rD) : Prop := ax_same fF h hh ∧ (∃ hv, co_at hh 52 (dP D) (dH D) hv (sp_vl D)) ∧ ax_i hh 66 1 = nI dd
section
variable {r l n dd : Nat} {D : rD} {C1 : Nat → Nat → Int32} {hh : ax_H}
theorem fS_pi {a j : Nat} {v : Int32} (F : fS h hh dd D) (ha : a = 67 ∨ a = 68 ∨ (a = 66 ∧ j = 2)) : fS h (ax_pi hh a j v) dd D := by
  obtain ⟨s, ⟨hv, co⟩, e⟩ := F
  have s1 : ax_same fF hh (ax_pi hh a j v) := sm_pi (by unfold fF; omega)
  refine ⟨sm_tr s s1, ⟨hv, co_at_same (F := fun x => x = a) (sm_pi rfl) (by refine ⟨?_, ?_, ?_⟩ <;> (intro q; omega)) co⟩, ?_⟩
  rw [ai_pi, if_neg (by omega)]; exact e
theorem c_keepRow7 (se : se_st h 66) (hd : dd ≤ 3) (F : fS h hh dd D) (hq : ∀ h', fS h h' dd D → Ret none h') : mX7_keepRow g [.ref 66] hh Ret := by
  have se1 := se_st_same F.1 se
  refine uX7_keepRow (fun A hA => vX7_keepRow_0 hA ⟨rfl, se1.1, se1.1, ?_⟩)
  intro u1
  have key : ∀ m i : Nat, i + m = dd → ∀ h3, fS h h3 dd D → A (12, [some (.ref 66), some (.int (nI i))], [], h3, 0, 0) := by
    intro m
    induction m with
    | zero =>
      intro i hi h3 F3
      have s3 := se_st_same F3.1 se
      refine vX7_keepRow_12 hA ⟨s3.1, fun _ => hq h3 F3, fun q => ?_⟩
      rw [F3.2.2] at q; exact absurd (nI_le (by omega) (by omega)) q
    | succ m ih =>
      intro i hi h3 F3
      have s3 := se_st_same F3.1 se
      have a1 : (ax_s h3 (66 + 1)).1 = 11 := by rw [s3.2.2.1.1]
      have a2 : vp_in (nI i) (ax_s h3 (66 + 1)).2 := by rw [s3.2.2.1.1]; exact vp_in_nI (by omega) (by decide)
      refine vX7_keepRow_12 hA ⟨s3.1, fun q => ?_, fun _ => ⟨s3.1, _, s3.2.1.1, ⟨rfl, rfl⟩, a1, a2, s3.1, _, s3.2.1.2.1, by rw [s3.2.2.1.2.1], by rw [s3.2.2.1.2.1]; exact vp_in_nI (by omega) (by decide), ?_⟩⟩
      · rw [F3.2.2] at q; exact absurd q (nI_ge (by omega) (by omega))
      · intro z4
        refine ⟨a1, a2, ?_⟩
        intro u5
        rw [← nI_succ]
        exact ih (i + 1) (by omega) u5 (fS_pi F3 (Or.inl rfl))
  exact key dd 0 (by omega) u1 (fS_pi F (Or.inr (Or.inr ⟨rfl, rfl⟩)))
theorem c_isAsSeen7 {x : Int32} (rc : rc_at hh r D) (co : ∃ hv, co_at hh 52 (dP D) (dH D) hv (sp_vl D)) (L : li_at hh l 4 n C1) (hq : ∀ v : Int32, Ret (some (.int v)) hh) : mX7_isAsSeen g [.ref r, .ref 52, .ref l, .int x] hh Ret := by
  have n6 : n ≤ 6 := L.2.1
  obtain ⟨hv, co⟩ := co
  refine uX7_isAsSeen (fun A hA => vX7_isAsSeen_0 hA ?_)
  have key : ∀ m i : Nat, i + m = n → ∀ o5 : Option Value, A (3, [some (.ref r), some (.ref 52), some (.ref l), some (.int x), some (.int (nI i)), o5], [], hh, 0, 0) := by
    intro m
    induction m with
    | zero =>
      intro i hi o5
      refine vX7_isAsSeen_3 hA ⟨L.1.1, fun _ => ⟨Or.inr rfl, hq _⟩, fun q => ?_⟩
      rw [L.2.2.1] at q; exact absurd (nI_le (by omega) (by omega)) q
    | succ m ih =>
      intro i hi o5
      have K : ∀ o5 : Option Value, A (3, [some (.ref r), some (.ref 52), some (.ref l), some (.int x), some (.int (nI i + 1)), o5], [], hh, 0, 0) := fun o5 => by rw [← nI_succ]; exact ih (i + 1) (by omega) _
      refine vX7_isAsSeen_3 hA ⟨L.1.1, fun q => ?_, fun _ => ⟨L.1.1, c_lcell (by decide) (by decide) L ⟨_, rfl, L.1.1, c_lcell (by decide) (by decide) L ⟨_, rfl, fun _ => K _, fun _ => ⟨rc.1.1, c_hasPerson rc ⟨_, rfl, fun _ => ⟨Or.inl rfl, hq _⟩, fun q => ⟨co.1.1, _, co.1.2.1, by rw [co.1.2.2.2.1], ?_, L.1.1, c_lcell (by decide) (by decide) L ⟨_, rfl, fun _ => K _, fun _ => ⟨Or.inl rfl, hq _⟩⟩⟩⟩⟩⟩⟩⟩⟩
      · rw [L.2.2.1] at q; exact absurd q (nI_ge (by omega) (by omega))
      · obtain ⟨p, hp, ep⟩ := sp_in_ix (by have := rc.2.1.2; omega) (b2i_n0.mp q)
        rw [ep, co.1.2.2.2.1]; exact vp_in_nI (by have := rc.2.1.2; omega) (by decide)
  exact key n 0 (by omega) _
theorem c_follow (se : se_st h 66) (rc : rc_at h r D) (hr : r + 6 ≤ 52) (L : li_at h l 4 n C1) (hl : l + 2 ≤ 52) (hd : dd ≤ 3) : ∀ (e gone d : Nat) (hh : ax_H) (Ret : Option Value → ax_H → Prop), gone + e = 3 → e ≤ d → fS h hh dd D → (∀ h', fS h h' dd D → Ret none h') → mX7_follow g d [.ref 66, .ref r, .ref 52, .ref l, .int (nI gone)] hh Ret := by
  have H12 := rc.2.1.1
  have kp : ∀ h3, fS h h3 dd D → se_st h3 66 ∧ rc_at h3 r D ∧ li_at h3 l 4 n C1 := fun h3 F => ⟨se_st_same F.1 se, rc_at_same F.1 (fun j hj q => by unfold fF at q; omega) rc, li_at_same F.1 (by refine ⟨?_, ?_⟩ <;> (intro q; unfold fF at q; omega)) L⟩
  intro e
  induction e with
  | zero =>
    intro gone d hh Ret hg he F hq
    obtain ⟨s, rc1, L1⟩ := kp hh F
    refine uX7_follow (fun A hA => vX7_follow_0 hA ⟨s.1, fun _ => ⟨s.1, c_keepRow7 se hd F (fun h2 F2 => ⟨rfl, hq h2 F2⟩)⟩, fun q => ⟨fun q3 => absurd q3 (nI_nlt (a := gone) (b := 3) (by omega) (by omega)), fun _ => ⟨s.1, c_keepRow7 se hd F (fun h2 F2 => ⟨rfl, hq h2 F2⟩)⟩⟩⟩)
  | succ e ihe =>
    intro gone d hh Ret hg he F hq
    obtain ⟨s, rc1, L1⟩ := kp hh F
    obtain ⟨hv, co⟩ := F.2.1
    obtain ⟨d, rfl⟩ : ∃ d', d = d' + 1 := ⟨d - 1, by omega⟩
    have od := (s.2.2.2 gone (by omega)).2
    refine uX7_follow (fun A hA => vX7_follow_0 hA ⟨s.1, fun _ => ⟨s.1, c_keepRow7 se hd F (fun h2 F2 => ⟨rfl, hq h2 F2⟩)⟩, fun q => ⟨fun _ => ⟨s.1, _, s.2.1.2.2, by rw [s.2.2.1.2.2], by rw [s.2.2.1.2.2]; exact vp_in_nI (by omega) (by decide), 66 + 4 + 2 * gone, by rw [nI_clamp (by omega)]; exact (s.2.2.2 gone (by omega)).1, co.1.1, c_poorest co ⟨_, rfl, od.1, c_weigh od rc1 (fun j hj q => by unfold od_F at q; omega) (fun h2 s2 o2 => ⟨rfl, ?_⟩)⟩⟩, fun _ => ⟨s.1, c_keepRow7 se hd F (fun h2 F2 => ⟨rfl, hq h2 F2⟩)⟩⟩⟩)
    have F2 : fS h h2 dd D := ⟨sm_tr F.1 (sm_mono s2 (fun x e => by unfold od_F at e; unfold fF; omega)), ⟨hv, co_at_same s2 (by refine ⟨?_, ?_, ?_⟩ <;> (intro q; unfold od_F at q; omega)) co⟩, by rw [(s2.2.2.2 66 (by unfold od_F; omega)).1]; exact F.2.2⟩
    have key : ∀ m i : Nat, i + m = dH D → ∀ h3, fS h h3 dd D → A (48, [some (.ref 66), some (.ref r), some (.ref 52), some (.ref l), some (.int (nI gone)), some (.ref (66 + 4 + 2 * gone)), some (.int (nI i))], [], h3, 0, 0) := by
      intro m
      induction m with
      | zero =>
        intro i hi h3 F3
        obtain ⟨s3, rc3, L3⟩ := kp h3 F3
        refine vX7_follow_48 hA ⟨rc3.1.1, fun _ => hq h3 F3, fun q => ?_⟩
        rw [rc3.2.2.1.1] at q; exact absurd (nI_le (by omega) (by omega)) q
      | succ m ih =>
        intro i hi h3 F3
        obtain ⟨s3, rc3, L3⟩ := kp h3 F3
        obtain ⟨hv3, co3⟩ := F3.2.1
        have od3 := (s3.2.2.2 gone (by omega)).2
        have K : ∀ h4, fS h h4 dd D → A (48, [some (.ref 66), some (.ref r), some (.ref 52), some (.ref l), some (.int (nI gone)), some (.ref (66 + 4 + 2 * gone)), some (.int (nI i + 1))], [], h4, 0, 0) := fun h4 F4 => by rw [← nI_succ]; exact ih (i + 1) (by omega) h4 F4
        have un : ∀ h4, fS h h4 dd D → (ax_s h4 52).1 = 0 ∧ mX0_unlive g [.ref 52, .int (nI i)] h4 (fun v21 h20 => v21 = none ∧ A (48, [some (.ref 66), some (.ref r), some (.ref 52), some (.ref l), some (.int (nI gone)), some (.ref (66 + 4 + 2 * gone)), some (.int (nI i + 1))], [], h20, 0, 0)) := fun h4 F4 => by
          obtain ⟨hv4, co4⟩ := F4.2.1
          exact ⟨co4.1.1, c_unlive co4 (fun h5 s5 c5 => ⟨rfl, K h5 ⟨sm_tr F4.1 (sm_mono s5 (fun x e => by unfold fF; omega)), ⟨_, c5⟩, by rw [(s5.2.2.2 66 (by decide)).1]; exact F4.2.2⟩⟩)⟩
        refine vX7_follow_48 hA ⟨rc3.1.1, fun q => ?_, fun _ => ⟨od3.1, _, od3.2.1, by rw [od3.2.2], by rw [od3.2.2]; exact vp_in_nI (by omega) (by decide), fun _ => ⟨co3.1.1, c_live co3 (fun h4 s4 c4 => ⟨rfl, ?_⟩)⟩, fun _ => K h3 F3⟩⟩
        · rw [rc3.2.2.1.1] at q; exact absurd q (nI_ge (by omega) (by omega))
        · have F4 : fS h h4 dd D := ⟨sm_tr F3.1 (sm_mono s4 (fun x e => by unfold fF; omega)), ⟨_, c4⟩, by rw [(s4.2.2.2 66 (by decide)).1]; exact F3.2.2⟩
          have s5 := (kp h4 F4).1
          refine ⟨s5.1, _, s5.2.1.2.1, by rw [s5.2.2.1.2.1], by rw [s5.2.2.1.2.1]; exact vp_in_nI (by omega) (by decide), ?_⟩
          intro u16
          have F6 : fS h u16 dd D := fS_pi F4 (Or.inr (Or.inl rfl))
          obtain ⟨s6, rc6, L6⟩ := kp u16 F6
          refine c_isAsSeen7 rc6 F6.2.1 L6 (fun v => ⟨_, rfl, fun _ => un u16 F6, fun _ => ⟨s6.1, ?_⟩⟩)
          rw [← nI_succ]
          exact ihe (gone + 1) d u16 _ (by omega) (by omega) F6 (fun h7 F7 => ⟨rfl, un h7 F7⟩)
    exact key (dH D) 0 (by omega) h2 F2
theorem c_run7 (se : se_st h 66) (rc : rc_at h r D) (hr : r + 6 ≤ 52) (co : co_at h 52 (dP D) (dH D) (dpu D) (sp_vl D)) (L : li_at h l 4 n C1) (lo : ln_ok 4 n C1) (hl : l + 2 ≤ 52) (hq : ∀ h' dd, dd ≤ 3 → fS h h' dd D → Ret none h') : mX7_run g [.ref 66, .ref r, .ref 52, .ref l] h Ret := by
  have n6 : n ≤ 6 := L.2.1
  refine uX7_run (fun A hA => vX7_run_0 hA ⟨se.1, ?_⟩)
  intro u1
  refine ⟨se.1, ?_⟩
  intro u2
  have e1 : ∀ h3, ax_same fF h h3 → (∃ hv, co_at h3 52 (dP D) (dH D) hv (sp_vl D)) → ∀ d2, fS h (ax_pi h3 66 1 (nI d2)) d2 D := fun h3 s3 c3 d2 => by
    obtain ⟨hv, co⟩ := c3
    exact ⟨sm_tr s3 (sm_pi (Or.inr ⟨Nat.le_refl _, by decide⟩)), ⟨hv, co_at_same (F := fun x => x = 66) (sm_pi rfl) (by decide) co⟩, by rw [ai_pi, if_pos ⟨rfl, rfl⟩]⟩
  have F2 : fS h u2 0 D := fS_pi (e1 h sm_rf ⟨_, co⟩ 0) (Or.inr (Or.inr ⟨rfl, rfl⟩))
  have k53 : ∀ m i : Nat, i + m = 3 → ∀ h3 dd, dd ≤ 3 → fS h h3 dd D → A (53, [some (.ref 66), some (.ref r), some (.ref 52), some (.ref l), some (.int (nI i))], [], h3, 0, 0) := by
    intro m
    induction m with
    | zero =>
      intro i hi h3 dd hd F
      have s3 := se_st_same F.1 se
      exact vX7_run_53 hA ⟨fun _ => ⟨s3.1, c_follow se rc hr L hl hd 3 0 7 h3 _ (by decide) (by decide) F (fun h4 F4 => ⟨rfl, hq h4 dd hd F4⟩)⟩, fun q => absurd (nI_le (a := 3) (b := i) (by omega) (by omega)) q⟩
    | succ m ih =>
      intro i hi h3 dd hd F
      have s3 := se_st_same F.1 se
      refine vX7_run_53 hA ⟨fun q => absurd q (nI_ge (a := i) (b := 3) (by omega) (by decide)), fun _ => ⟨s3.1, _, s3.2.1.1, by rw [s3.2.2.1.1], by rw [s3.2.2.1.1]; exact vp_in_nI (by omega) (by decide), ?_⟩⟩
      intro u11
      rw [← nI_succ]
      exact ih (i + 1) (by omega) u11 dd hd (fS_pi F (Or.inl rfl))
  have k13 : ∀ m i : Nat, i + m = n → ∀ h3 dd, dd ≤ 3 → fS h h3 dd D → A (13, [some (.ref 66), some (.ref r), some (.ref 52), some (.ref l), some (.int (nI i))], [], h3, 0, 0) := by
    intro m
    induction m with
    | zero =>
      intro i hi h3 dd hd F
      have L3 := li_at_same F.1 (by refine ⟨?_, ?_⟩ <;> (intro q; unfold fF at q; omega)) L
      refine vX7_run_13 hA ⟨L3.1.1, fun _ => k53 3 0 (by decide) h3 dd hd F, fun q => ?_⟩
      rw [L3.2.2.1] at q; exact absurd (nI_le (by omega) (by omega)) q
    | succ m ih =>
      intro i hi h3 dd hd F
      have s3 := se_st_same F.1 se
      have L3 := li_at_same F.1 (by refine ⟨?_, ?_⟩ <;> (intro q; unfold fF at q; omega)) L
      obtain ⟨a, b, a1, a4, b6, ea, eb, -⟩ := lo.2 i (by omega)
      refine vX7_run_13 hA ⟨L3.1.1, fun q => ?_, fun _ => ⟨s3.1, L3.1.1, c_lcell (by decide) (by decide) L3 ⟨_, rfl, ?_⟩⟩⟩
      · rw [L3.2.2.1] at q; exact absurd q (nI_ge (by omega) (by omega))
      · intro z6
        have ez : ∃ d2, d2 ≤ 3 ∧ z6 = nI d2 := by
          have e0 : z6 = if nI dd < nI a then nI a else nI dd := by
            show (if ax_i h3 66 1 < (if 3 < sp_lc n (lw 4) C1 (nI i) 0 then 3 else sp_lc n (lw 4) C1 (nI i) 0) then (if 3 < sp_lc n (lw 4) C1 (nI i) 0 then 3 else sp_lc n (lw 4) C1 (nI i) 0) else ax_i h3 66 1) = _
            rw [show sp_lc n (lw 4) C1 (nI i) 0 = C1 i 0 from lc_in (j := 0) (by omega) (by decide) (by omega) (by decide), ea, if_neg (show ¬ (3 : Int32) < nI a from nI_nlt (a := 3) (b := a) (by omega) (by decide)), F.2.2]
          rw [e0]
          split
          · exact ⟨a, by omega, rfl⟩
          · exact ⟨dd, hd, rfl⟩
        obtain ⟨d2, hd2, rfl'⟩ := ez
        refine ⟨s3.1, ?_⟩
        intro u7
        rw [← nI_succ]
        refine ih (i + 1) (by omega) u7 d2 hd2 ?_
        show fS h (ax_pi h3 66 1 z6) d2 D
        rw [rfl']
        exact e1 h3 F.1 F.2.1 d2
  exact k13 n 0 (by omega) u2 0 (by decide) F2
end
theorem c_sureHour {x : Int32} (se : se_st h 66) (hq : ∀ v : Int32, Ret (some (.int v)) h) : mX7_sureHour g [.ref 66, .int x] h Ret := by
  refine uX7_sureHour (fun A hA => vX7_sureHour_0 hA ⟨fun _ => hq _, fun q => ⟨fun q3 => ?_, fun _ => hq _⟩⟩)
  obtain ⟨d, hd, rfl⟩ := (ni_ix (x := x) (n := 3) (by decide)).mp ⟨q, nt_le.mpr q3⟩
  have key : ∀ m i : Nat, i + m = 12 → A (13, [some (.ref 66), some (.int (nI d)), some (.int (nI i))], [], h, 0, 0) := by
    intro m
    induction m with
    | zero =>
      intro i hi
      exact vX7_sureHour_13 hA ⟨fun _ => hq _, fun q => absurd (nI_le (a := 12) (b := i) (by omega) (by omega)) q⟩
    | succ m ih =>
      intro i hi
      refine vX7_sureHour_13 hA ⟨fun q => absurd q (nI_ge (a := i) (b := 12) (by omega) (by decide)), fun _ => ⟨se.1, _, se.2.1.1, by rw [se.2.2.1.1], by rw [se.2.2.1.1]; exact vp_in_nI (by omega) (by decide), fun _ => ?_, fun _ => hq _⟩⟩
      rw [← nI_succ]; exact ih (i + 1) (by omega)
  exact key 12 0 (by decide)
theorem t9_fits {x1 x2 x3 : Int32} (a : tc h z DD N C) (se : se_st h 66) (hq : ∀ (v : Int32) h', ax_same cl_F h h' → Ret (some (.int v)) h') : mX9_fits g [.ref 0, .int x1, .int x2, .int x3] h Ret := by
  refine eX9_fits ⟨a.1.1, q_begun a (fun q => Or.inr ⟨rfl, a.1.1, _, a.1.2.1.1, a.2.2.1.1.1, c_linesAt (s0 := 4) a.2.2.1 (by decide) (by decide) (fun _ => Or.inr ⟨rfl, hq _ h sm_rf⟩) (fun k hk ex => Or.inl ⟨_, rfl, hq _ h sm_rf⟩)⟩) (fun k hk ex ok h' hs xs hc => Or.inl ⟨_, rfl, ?_⟩)⟩
  have b := tc_cl hs a
  have k2 : k < 2 := by have := a.2.2.2.2.1 0 (by decide); omega
  refine ⟨b.1.1, _, b.1.2.1.1, b.2.2.1.1.1, c_linesAt (s0 := 4) b.2.2.1 (by decide) (by decide) (fun _ => Or.inr ⟨rfl, hq _ h' hs⟩) (fun w hw ew => Or.inl ⟨_, rfl, ?_⟩)⟩
  have w2 : w < 2 := by have := a.2.2.2.2.1 4 (by decide); omega
  have L := b.2.2.1.2.2.2 4 w (by decide) (by decide) hw
  have s := se_st_same hs se
  refine ⟨b.1.1, _, b.1.2.1.2.2.2.2.2.2.2.1, b.1.1, _, b.1.2.1.2.2.2.1, s.1, c_run7 s hc.1 (by omega) hc.2.1 L (a.2.2.2.2.2.2 4 w (by decide) (by decide) hw) (by unfold lnp; omega) (fun h2 dd hd F => ⟨rfl, ?_⟩)⟩
  have s2 := se_st_same F.1 s
  have x2' := xs_st_same F.1 xs
  have fin : ∀ v : Int32, Ret (some (.int v)) h2 := fun v => hq v h2 (sm_tr hs (sm_mono F.1 (fun x e => by unfold fF at e; unfold cl_F; omega)))
  have r0 := x2'.1
  have r7 := x2'.2.1.2.2.2.2.2.2.2.1
  have late : ∀ y : Int32, ¬ y < 20 → ¬ 20 + ax_i h2 66 1 ≤ y → vp_in (y - 20) (ax_s h2 (66 + 1)).2 := fun y q1 q2 => by
    rw [F.2.2, show (20 : Int32) + nI dd = nI (20 + dd) from ni_c 20 _] at q2
    have q3 := nt_le.mp q2
    have q4 := nt_lt.mp q1
    obtain ⟨m, m1, m2, rfl⟩ := i_rng (a := 20) (b := 20 + dd) (by omega) (by omega) q4 (by rw [i_lt] at q3; rw [i_le]; omega)
    obtain ⟨i, rfl⟩ := Nat.exists_eq_add_of_le m1
    have : i < dd := by rw [nI_ltI (by omega) (by omega)] at q3; omega
    rw [show nI (20 + i) - 20 = nI i from ni_sb, s2.2.2.1.1]
    exact vp_in_nI (by omega) (by decide)
  refine ⟨fun _ => ⟨fun _ => ⟨fun _ => fin _, fun q => ⟨r0, _, r7, s2.1, fun _ => fin _, fun q2 => ⟨r0, _, r7, s2.1, _, s2.2.1.1, by rw [s2.2.2.1.1], late _ q q2, fin _⟩⟩⟩, fun _ => ⟨r0, _, r7, s2.1, fun _ => ⟨fun _ => fin _, fun q => ⟨r0, _, r7, s2.1, fun _ => fin _, fun q2 => ⟨r0, _, r7, s2.1, _, s2.2.1.1, by rw [s2.2.2.1.1], late _ q q2, fin _⟩⟩⟩, fun _ => ⟨r0, _, r7, s2.1, c_sureHour s2 (fun v => ⟨_, rfl, fin _⟩)⟩⟩⟩, fun _ => ⟨r0, _, r7, s2.1, fin _⟩⟩
end
end

section
section
variable {g : ax_G} {Ret : Option Value → ax_H → Prop} {h : ax_H} {z : Nat → Nat} {DD : Nat → rD} {N : Nat → Nat → Nat} {C : Nat → Nat → Nat → Nat → Int32} {S : sT} {Im : Nat → Option sT} {tp : Nat → Nat} {B : Nat}
/-! FITS, of the reference -/
theorem mo_mb {h : ax_H} {m : Nat} (a : mo_st h m) : ax_r h m 52 = some (m + 21) ∧ ax_s h (m + 21) = (11, 3) := a.2 20 _ rfl
theorem mo_rw {h : ax_H} {m : Nat} (a : mo_st h m) : ax_r h m 53 = some (m + 22) ∧ ax_s h (m + 22) = (11, 3) := a.2 21 _ rfl
/-- purses of any size, sights and days -/
def cmS (h hh : ax_H) (k : Nat) (D : rD) (w dd : Nat) : Prop := (ax_same md_F h hh ∧ ∃ pu, mc_at hh 77 k D (dmo D) pu (sp_vl D)) ∧ ax_i hh 77 49 = nI w ∧ ax_i hh 77 51 = nI dd
section
variable {hh : ax_H} {k w dd : Nat} {D : rD}
theorem cmS_f {j : Nat} {v : Int32} (M : cmS h hh k D w dd) (hj : j = 50) : cmS h (ax_pi hh 77 j v) k D w dd := by
  obtain ⟨⟨s, pu, mc⟩, e1, e2⟩ := M
  subst hj
  exact ⟨⟨sm_tr s (sm_pi (Or.inl rfl)), pu, mc_at_mr (mr_f (J := fun j => j = 50) (F := fun _ => False) rfl) (by decide) (by decide) mc⟩, by rw [ai_pi, if_neg (by decide)]; exact e1, by rw [ai_pi, if_neg (by decide)]; exact e2⟩
theorem cmS_51 {d2 : Nat} (M : cmS h hh k D w dd) : cmS h (ax_pi hh 77 51 (nI d2)) k D w d2 := by
  obtain ⟨⟨s, pu, mc⟩, e1, e2⟩ := M
  exact ⟨⟨sm_tr s (sm_pi (Or.inl rfl)), pu, mc_at_mr (mr_f (J := fun j => j = 51) (F := fun _ => False) rfl) (by decide) (by decide) mc⟩, by rw [ai_pi, if_neg (by decide)]; exact e1, by rw [ai_pi, if_pos ⟨rfl, rfl⟩]⟩
theorem cmS_a {a j : Nat} {v : Int32} (M : cmS h hh k D w dd) (ha : a = 98 ∨ a = 99) : cmS h (ax_pi hh a j v) k D w dd := by
  obtain ⟨⟨s, pu, mc⟩, e1, e2⟩ := M
  have r : mr (fun _ => False) (fun x => x = a) 77 hh (ax_pi hh a j v) := mr_c rfl (by omega)
  exact ⟨⟨sm_tr s (sm_pi (by unfold md_F; omega)), pu, mc_at_mr r (by decide) (by omega) mc⟩, by rw [ai_pi, if_neg (by omega)]; exact e1, by rw [ai_pi, if_neg (by omega)]; exact e2⟩
theorem cmS_90 {j : Nat} {v : Int32} (M : cmS h hh k D w dd) : cmS h (ax_pi hh 90 j v) k D w dd := by
  obtain ⟨⟨s, pu, mc⟩, e1, e2⟩ := M
  have r : mr (fun _ => False) (fun x => x = 90) 77 hh (ax_pi hh 90 j v) := mr_c rfl (by decide)
  exact ⟨⟨sm_tr s (sm_pi (by unfold md_F; omega)), fun p => ax_i (ax_pi hh 90 j v) 90 p, ⟨mb_at_mr r (by decide) (by decide) mc.1, fun p _ => rfl, fun p q hp hq => by rw [mr_e r (by decide) (by decide)]; exact mc.2.2.1 p q hp hq, fun p q hp hq => by rw [mr_e r (by decide) (by decide)]; exact mc.2.2.2 p q hp hq⟩⟩, by rw [ai_pi, if_neg (by omega)]; exact e1, by rw [ai_pi, if_neg (by omega)]; exact e2⟩
theorem si_at (a : tc h z DD N C) (M : cmS h hh k D w dd) (hw : w < z 4) : ax_r hh 77 10 = some 87 ∧ (ax_s hh 87).1 = 11 ∧ vp_in ((19 : Int32) * ax_i hh 77 49) (ax_s hh 87).2 ∧ ax_i hh 87 ((19 : Int32) * ax_i hh 77 49).toNatClampNeg = nI (N 4 w) := by
  have c := tc_md M.1.1 a
  have w2 : w < 2 := by have := a.2.2.2.2.1 4 (by decide); omega
  obtain ⟨e1, e2⟩ := mo_si c.2.1
  have tl := (tm_ln c.2.2.2.1 (show 1 ≤ 4 by decide) (by decide) hw).1
  rw [M.2.1, show (19 : Int32) * nI w = nI (19 * w) from ni_mul, nI_clamp (by omega)]
  exact ⟨e1, by rw [e2], by rw [e2]; exact vp_in_nI (by omega) (by decide), tl⟩
theorem c_misAsSeen {x : Int32} (a : tc h z DD N C) (ok : rd_ok (DD k)) (M : cmS h hh k (DD k) w dd) (hw : w < z 4) (hq : ∀ v : Int32, Ret (some (.int v)) hh) : mX10_isAsSeen g [.ref 77, .int x] hh Ret := by
  have c := tc_md M.1.1 a
  have n6 : N 4 w ≤ 6 := (a.2.2.2.2.2.2 4 w (by decide) (by decide) hw).1
  obtain ⟨pu, mc⟩ := M.1.2
  have s0 := c.2.1.1
  obtain ⟨e1, e2, e3, e4⟩ := si_at a M hw
  obtain ⟨f1, f2⟩ := mo_pu c.2.1
  refine uX10_isAsSeen (fun A hA => vX10_isAsSeen_0 hA ?_)
  have key : ∀ m i : Nat, i + m = N 4 w → A (2, [some (.ref 77), some (.int x), some (.int (nI i))], [], hh, 0, 0) := by
    intro m
    induction m with
    | zero =>
      intro i hi
      refine vX10_isAsSeen_2 hA ⟨s0, _, e1, s0, e2, e3, fun _ => ⟨Or.inr rfl, hq _⟩, fun q => ?_⟩
      rw [e4] at q; exact absurd (nI_le (by omega) (by omega)) q
    | succ m ih =>
      intro i hi
      have K : A (2, [some (.ref 77), some (.int x), some (.int (nI i + 1))], [], hh, 0, 0) := by rw [← nI_succ]; exact ih (i + 1) (by omega)
      refine vX10_isAsSeen_2 hA ⟨s0, _, e1, s0, e2, e3, fun q => ?_, fun _ => ⟨s0, c_msightOf (j := 0) c.2.1 c.2.2.2.1 c.2.2.2.2 hw M.2.1 (by omega) (by decide) ⟨_, rfl, fun _ => K, fun _ => ⟨s0, c_msightOf (j := 1) c.2.1 c.2.2.2.1 c.2.2.2.2 hw M.2.1 (by omega) (by decide) ⟨_, rfl, s0, c_misOne mc.1 ⟨_, rfl, fun _ => ⟨Or.inl rfl, hq _⟩, fun q => ⟨s0, _, f1, s0, c_msightOf (j := 1) c.2.1 c.2.2.2.1 c.2.2.2.2 hw M.2.1 (by omega) (by decide) ⟨_, rfl, by rw [f2], ?_, s0, c_msightOf (j := 2) c.2.1 c.2.2.2.1 c.2.2.2.2 hw M.2.1 (by omega) (by decide) ⟨_, rfl, fun _ => K, fun _ => ⟨Or.inl rfl, hq _⟩⟩⟩⟩⟩⟩⟩⟩⟩⟩
      · rw [e4] at q; exact absurd q (nI_ge (by omega) (by omega))
      · obtain ⟨p, hp, ep⟩ := sp_in_ix (by have := ok.2.1; omega) (b2i_n0.mp q)
        rw [ep, f2]; exact vp_in_nI (by have := ok.2.1; omega) (by decide)
  exact key (N 4 w) 0 (by omega)
theorem c_misRow {c : Nat} (a : tc h z DD N C) (ok : rd_ok (DD k)) (M : cmS h hh k (DD k) w dd) (hw : w < z 4) (hd : dd ≤ 3) (hc : c < 100000) (hq : ∀ (v : Int32) h2, cmS h h2 k (DD k) w dd → Ret (some (.int v)) h2) : mX10_isRow g [.ref 77, .int (nI c)] hh Ret := by
  have H12 := ok.1.2
  have H2 := ok.1.1
  have P6 := ok.2.1
  refine uX10_isRow (fun A hA => vX10_isRow_0 hA ?_)
  have k37 : ∀ m i c : Nat, i + m = dd → c < 100000 → ∀ h3, cmS h h3 k (DD k) w dd → (∃ x, mw_at h3 77 (dH (DD k)) (sp_w (DD k) x) (sp_t (DD k) x) x) → ∀ o1 : Option Value, A (37, [some (.ref 77), o1, some (.int (nI c)), some (.int (nI i))], [], h3, 0, 0) := by
    intro m
    induction m with
    | zero =>
      intro i c hi hc h3 M3 W o1
      obtain ⟨pu, mc⟩ := M3.1.2
      refine vX10_isRow_37 hA ⟨mc.1.1.1, fun _ => ⟨Or.inr rfl, hq _ h3 M3⟩, fun q => ?_⟩
      rw [M3.2.2] at q; exact absurd (nI_le (by omega) (by omega)) q
    | succ m ih =>
      intro i c hi hc h3 M3 W o1
      obtain ⟨pu, mc⟩ := M3.1.2
      have s0 := mc.1.1.1
      obtain ⟨e1, e2⟩ := mo_rw mc.1.1
      obtain ⟨f1, f2⟩ := mo_we mc.1.1
      have e26 := mc.1.2.2.2.2.1
      have ne : ¬ ax_i h3 77 26 = 0 := by rw [e26]; exact nI_ne0 (by omega) (by omega)
      have v3 : vp_in (nI i) (ax_s h3 (77 + 22)).2 := by rw [e2]; exact vp_in_nI (by omega) (by decide)
      have s11 : (ax_s h3 (77 + 22)).1 = 11 := by rw [e2]
      refine vX10_isRow_37 hA ⟨s0, fun q => ?_, fun _ => ⟨s0, _, e1, s0, ne, s11, v3, ?_⟩⟩
      · rw [M3.2.2] at q; exact absurd q (nI_ge (by omega) (by omega))
      · intro u9
        have M9 : cmS h u9 k (DD k) w dd := cmS_a M3 (Or.inr rfl)
        obtain ⟨pu9, mc9⟩ := M9.1.2
        have ev : ax_i u9 (77 + 22) (nI i).toNatClampNeg = nI (c % dH (DD k)) := by
          show ax_i (ax_pi h3 99 (nI i).toNatClampNeg (nI c - nI c / ax_i h3 77 26 * ax_i h3 77 26)) 99 (nI i).toNatClampNeg = _
          rw [ai_pi, if_pos ⟨rfl, rfl⟩, e26, pk_rem (by omega) (by omega) (by omega)]
        have cm : c % dH (DD k) < dH (DD k) := Nat.mod_lt _ (by omega)
        refine ⟨s0, by rw [show ax_i u9 77 26 = nI (dH (DD k)) from mc9.1.2.2.2.2.1]; exact nI_ne0 (by omega) (by omega), s0, _, f1, s0, _, e1, s11, v3, by show (ax_s h3 (77 + 16)).1 = 11; rw [f2], ?_, fun _ => ⟨s0, _, e1, s11, v3, s0, ?_⟩, fun _ => ⟨Or.inl rfl, hq _ u9 M9⟩⟩
        · show vp_in (ax_i u9 (77 + 22) (nI i).toNatClampNeg) (ax_s h3 (77 + 16)).2
          rw [ev, f2]; exact vp_in_nI (by omega) (by decide)
        · rw [ev]
          refine c_mlive mc9 cm (fun h4 r4 c4 w4 => ⟨rfl, ?_⟩)
          have M4 : cmS h h4 k (DD k) w dd := ⟨⟨sm_tr M9.1.1 (sm_mono r4.1 (fun x e => by unfold md_F; omega)), _, c4⟩, by rw [(r4.2 49 (by decide)).1]; exact M9.2.1, by rw [(r4.2 51 (by decide)).1]; exact M9.2.2⟩
          refine ⟨c4.1.1.1, c_misAsSeen a ok M4 hw (fun v => ⟨_, rfl, fun _ => ?_, fun _ => ⟨Or.inl rfl, hq _ h4 M4⟩⟩)⟩
          rw [show ax_i u9 77 26 = nI (dH (DD k)) from mc9.1.2.2.2.2.1, pk_div (by omega) (by omega) (by omega), ← nI_succ]
          exact ih (i + 1) (c / dH (DD k)) (by omega) (Nat.lt_of_le_of_lt (Nat.div_le_self _ _) hc) h4 M4 ⟨_, w4⟩ _
  have k4 : ∀ m i : Nat, i + m = dP (DD k) → ∀ h3, cmS h h3 k (DD k) w dd → ∀ o1 : Option Value, A (4, [some (.ref 77), o1, some (.int (nI c)), some (.int (nI i))], [], h3, 0, 0) := by
    intro m
    induction m with
    | zero =>
      intro i hi h3 M3 o1
      obtain ⟨pu, mc⟩ := M3.1.2
      refine vX10_isRow_4 hA ⟨mc.1.1.1, fun _ => ⟨mc.1.1.1, c_mlayOdds mc.1 mc.2.1 (fun h4 r4 w4 => ⟨rfl, ?_⟩)⟩, fun q => ?_⟩
      · have M4 : cmS h h4 k (DD k) w dd := ⟨⟨sm_tr M3.1.1 (sm_mono r4.1 (fun x e => by unfold md_F; omega)), pu, mc_at_mr r4 (by decide) (by decide) mc⟩, by rw [(r4.2 49 (by decide)).1]; exact M3.2.1, by rw [(r4.2 51 (by decide)).1]; exact M3.2.2⟩
        exact k37 dd 0 c (by omega) hc h4 M4 ⟨_, w4⟩ _
      · rw [mc.1.2.2.2.2.2.1] at q; exact absurd (nI_le (by omega) (by omega)) q
    | succ m ih =>
      intro i hi h3 M3 o1
      obtain ⟨pu, mc⟩ := M3.1.2
      obtain ⟨e1, e2⟩ := mo_pu mc.1.1
      refine vX10_isRow_4 hA ⟨mc.1.1.1, fun q => ?_, fun _ => ⟨mc.1.1.1, _, e1, mc.1.1.1, c_mof (i := 2 + i) mc.1.1 mc.1.2.1 mc.1.2.2.2.1 (by omega) (ni_c 2 i) ⟨_, rfl, by rw [e2], by rw [e2]; exact vp_in_nI (by omega) (by decide), ?_⟩⟩⟩
      · rw [mc.1.2.2.2.2.2.1] at q; exact absurd q (nI_ge (by omega) (by omega))
      · intro u7
        rw [← nI_succ]
        exact ih (i + 1) (by omega) u7 (cmS_90 M3) _
  exact k4 (dP (DD k)) 0 (by omega) hh M _
theorem c_monlyOne {x : Int32} (M : cmS h hh k D w dd) (hq : ∀ v : Int32, Ret (some (.int v)) hh) : mX10_onlyOne g [.ref 77, .int x] hh Ret := by
  obtain ⟨pu, mc⟩ := M.1.2
  have H12 := mc.1.2.2.1.1.1
  refine uX10_onlyOne (fun A hA => vX10_onlyOne_0 hA ?_)
  have key : ∀ m i : Nat, i + m = dH D → A (2, [some (.ref 77), some (.int x), some (.int (nI i))], [], hh, 0, 0) := by
    intro m
    induction m with
    | zero =>
      intro i hi
      refine vX10_onlyOne_2 hA ⟨mc.1.1.1, fun _ => hq _, fun q => ?_⟩
      rw [mc.1.2.2.2.2.1] at q; exact absurd (nI_le (by omega) (by omega)) q
    | succ m ih =>
      intro i hi
      refine vX10_onlyOne_2 hA ⟨mc.1.1.1, fun q => ?_, fun _ => ⟨fun _ => ?_, fun _ => hq _⟩⟩
      · rw [mc.1.2.2.2.2.1] at q; exact absurd q (nI_ge (by omega) (by omega))
      · rw [← nI_succ]; exact ih (i + 1) (by omega)
  exact key (dH D) 0 (by omega)
theorem c_findFits (a : tc h z DD N C) (ok : rd_ok (DD k)) (M : (ax_same md_F h hh ∧ ∃ pu, mc_at hh 77 k (DD k) (dmo (DD k)) pu (sp_vl (DD k))) ∧ ax_i hh 77 49 = nI w) (hw : w < z 4) (hq : ∀ h2 dd, dd ≤ 3 → cmS h h2 k (DD k) w dd → Ret none h2) : mX10_findFits g [.ref 77] hh Ret := by
  have H12 := ok.1.2
  have lo := a.2.2.2.2.2.2 4 w (by decide) (by decide) hw
  have n6 : N 4 w ≤ 6 := lo.1
  have s00 := (tc_md M.1.1 a).2.1.1
  refine uX10_findFits (fun A hA => vX10_findFits_0 hA ⟨s00, ?_⟩)
  intro u1
  have M1 : cmS h u1 k (DD k) w 0 := by
    obtain ⟨⟨s, pu, mc⟩, e1⟩ := M
    exact ⟨⟨sm_tr s (sm_pi (Or.inl rfl)), pu, mc_at_mr (mr_f (J := fun j => j = 51) (F := fun _ => False) rfl) (by decide) (by decide) mc⟩, by show ax_i (ax_pi hh 77 51 0) 77 49 = _; rw [ai_pi, if_neg (by decide)]; exact e1, by show ax_i (ax_pi hh 77 51 0) 77 51 = _; rw [ai_pi, if_pos ⟨rfl, rfl⟩]; rfl⟩
  have k85 : ∀ dd, dd ≤ 3 → ∀ t, t ≤ 1728 → ∀ m i : Nat, i + m = t → ∀ h3, cmS h h3 k (DD k) w dd → ∀ o3 : Option Value, A (85, [some (.ref 77), some (.int (nI t)), some (.int (nI i)), o3], [], h3, 0, 0) := by
    intro dd hd t ht m
    induction m with
    | zero =>
      intro i hi h3 M3 o3
      exact vX10_findFits_85 hA ⟨fun _ => hq h3 dd hd M3, fun q => absurd (nI_le (by omega) (by omega)) q⟩
    | succ m ih =>
      intro i hi h3 M3 o3
      obtain ⟨pu, mc⟩ := M3.1.2
      refine vX10_findFits_85 hA ⟨fun q => absurd q (nI_ge (by omega) (by omega)), fun _ => ⟨mc.1.1.1, c_misRow a ok M3 hw hd (by omega) (fun v h4 M4 => ⟨_, rfl, fun _ => ?_, fun _ => ?_⟩)⟩⟩
      · rw [← nI_succ]; exact ih (i + 1) (by omega) h4 M4 _
      · obtain ⟨pu4, mc4⟩ := M4.1.2
        refine ⟨rfl, mc4.1.1.1, mc4.1.1.1, ?_⟩
        intro u16
        have k110 : ∀ f j : Nat, j + f = dd → ∀ h5, cmS h h5 k (DD k) w dd → A (110, [some (.ref 77), some (.int (nI t)), some (.int (nI i)), some (.int (nI j))], [], h5, 0, 0) := by
          intro f
          induction f with
          | zero =>
            intro j hj h5 M5
            obtain ⟨pu5, mc5⟩ := M5.1.2
            refine vX10_findFits_110 hA ⟨mc5.1.1.1, fun _ => ?_, fun q => ?_⟩
            · rw [← nI_succ]; exact ih (i + 1) (by omega) h5 M5 _
            · rw [M5.2.2] at q; exact absurd (nI_le (by omega) (by omega)) q
          | succ f ihf =>
            intro j hj h5 M5
            obtain ⟨pu5, mc5⟩ := M5.1.2
            obtain ⟨e1, e2⟩ := mo_mb mc5.1.1
            obtain ⟨f1, f2⟩ := mo_rw mc5.1.1
            have s11 : (ax_s h5 (77 + 21)).1 = 11 := by rw [e2]
            have v3 : vp_in (nI j) (ax_s h5 (77 + 21)).2 := by rw [e2]; exact vp_in_nI (by omega) (by decide)
            refine vX10_findFits_110 hA ⟨mc5.1.1.1, fun q => ?_, fun _ => ⟨mc5.1.1.1, _, e1, ⟨rfl, rfl⟩, s11, v3, mc5.1.1.1, _, f1, by rw [f2], by rw [f2]; exact vp_in_nI (by omega) (by decide), ?_⟩⟩
            · rw [M5.2.2] at q; exact absurd q (nI_ge (by omega) (by omega))
            · intro z19
              refine ⟨s11, v3, ?_⟩
              intro u20
              rw [← nI_succ]
              exact ihf (j + 1) (by omega) u20 (cmS_a M5 (Or.inl rfl))
        exact k110 dd 0 (by omega) u16 (cmS_f M4 rfl)
  have k55 : ∀ dd, dd ≤ 3 → ∀ m i : Nat, i + m = dd → ∀ t, t ≤ 12 ^ i → ∀ h3, cmS h h3 k (DD k) w dd → ∀ o3 : Option Value, A (55, [some (.ref 77), some (.int (nI t)), some (.int (nI i)), o3], [], h3, 0, 0) := by
    intro dd hd m
    induction m with
    | zero =>
      intro i hi t ht h3 M3 o3
      obtain ⟨pu, mc⟩ := M3.1.2
      have p12 : ∀ i, i ≤ 3 → 12 ^ i ≤ 1728 := by decide
      refine vX10_findFits_55 hA ⟨mc.1.1.1, fun _ => k85 dd hd t (Nat.le_trans ht (p12 i (by omega))) t 0 (by omega) h3 M3 _, fun q => ?_⟩
      rw [M3.2.2] at q; exact absurd (nI_le (by omega) (by omega)) q
    | succ m ih =>
      intro i hi t ht h3 M3 o3
      obtain ⟨pu, mc⟩ := M3.1.2
      obtain ⟨e1, e2⟩ := mo_mb mc.1.1
      refine vX10_findFits_55 hA ⟨mc.1.1.1, fun q => ?_, fun _ => ⟨mc.1.1.1, _, e1, by rw [e2], by rw [e2]; exact vp_in_nI (by omega) (by decide), ?_⟩⟩
      · rw [M3.2.2] at q; exact absurd q (nI_ge (by omega) (by omega))
      · intro u12
        have M12 : cmS h u12 k (DD k) w dd := cmS_a M3 (Or.inl rfl)
        obtain ⟨pu12, mc12⟩ := M12.1.2
        refine ⟨mc.1.1.1, ?_⟩
        rw [show ax_i u12 77 26 = nI (dH (DD k)) from mc12.1.2.2.2.2.1, pk_mul t (dH (DD k)), ← nI_succ]
        exact ih (i + 1) (by omega) (t * dH (DD k)) (by rw [Nat.pow_succ]; exact Nat.mul_le_mul ht H12) u12 M12 _
  have k7 : ∀ m i : Nat, i + m = N 4 w → ∀ h3 dd, dd ≤ 3 → cmS h h3 k (DD k) w dd → ∀ o2 o3 : Option Value, A (7, [some (.ref 77), some (.int (nI i)), o2, o3], [], h3, 0, 0) := by
    intro m
    induction m with
    | zero =>
      intro i hi h3 dd hd M3 o2 o3
      obtain ⟨e1, e2, e3, e4⟩ := si_at a M3 hw
      have s0 := (tc_md M3.1.1 a).2.1.1
      refine vX10_findFits_7 hA ⟨s0, _, e1, s0, e2, e3, fun _ => ⟨s0, ?_⟩, fun q => ?_⟩
      · intro u3
        exact k55 dd hd dd 0 (by omega) 1 (by decide) u3 (cmS_f M3 rfl) _
      · rw [e4] at q; exact absurd (nI_le (by omega) (by omega)) q
    | succ m ih =>
      intro i hi h3 dd hd M3 o2 o3
      have c := tc_md M3.1.1 a
      obtain ⟨e1, e2, e3, e4⟩ := si_at a M3 hw
      have s0 := c.2.1.1
      obtain ⟨α, β, a1, a4, b6, ea, eb, -⟩ := lo.2 i (by omega)
      refine vX10_findFits_7 hA ⟨s0, _, e1, s0, e2, e3, fun q => ?_, fun _ => ⟨s0, s0, c_msightOf (j := 0) c.2.1 c.2.2.2.1 c.2.2.2.2 hw M3.2.1 (by omega) (by decide) ⟨_, rfl, eX10_greater ⟨fun _ => ⟨_, rfl, s0, ?_⟩, fun _ => ⟨_, rfl, s0, ?_⟩⟩⟩⟩⟩
      · rw [e4] at q; exact absurd q (nI_ge (by omega) (by omega))
      · intro u10
        rw [← nI_succ]
        refine ih (i + 1) (by omega) u10 α (by omega) ?_ _ _
        show cmS h (ax_pi h3 77 51 (C 4 w i 0)) k (DD k) w α
        rw [ea]; exact cmS_51 M3
      · intro u10
        rw [← nI_succ]
        refine ih (i + 1) (by omega) u10 dd hd ?_ _ _
        show cmS h (ax_pi h3 77 51 (ax_i h3 77 51)) k (DD k) w dd
        rw [M3.2.2]; exact cmS_51 M3
  exact k7 (N 4 w) 0 (by omega) u1 0 (by decide) M1 _ _
end
theorem t10_fits {x1 x2 x3 : Int32} (a : tc h z DD N C) (hq : ∀ (v : Int32) h', ax_same md_F h h' → Ret (some (.int v)) h') : mX10_fits g [.ref 77, .int x1, .int x2, .int x3] h Ret := by
  obtain ⟨a1, T1, hs1⟩ := q_code (v := 0) a.2.1 a.2.2.2.1
  obtain ⟨a2, T2, hs2⟩ := mf_keep (k := 49) (v := x2) a1 T1
  refine eX10_fits ⟨a.2.1.1, ?_⟩
  intro u1
  refine ⟨a.2.1.1, c_mhasSights a1 T1 a.2.2.2.2 ⟨_, rfl, fun _ => hq _ _ (sm_tr hs1 hs2), fun q => ⟨a2.1, q_handR a2 T2 a.2.2.2.2 (fun _ => ⟨_, rfl, fun q => absurd rfl q, fun _ => hq _ _ (sm_tr hs1 hs2)⟩) (fun k hk ex ok h' hs hm => ⟨_, rfl, fun _ => ⟨hm.1.1.1.1, ?_⟩, fun q => absurd q (by decide)⟩)⟩⟩⟩
  obtain ⟨w, hw, rfl⟩ := sp_in_ix (by have := a.2.2.2.2.1 4 (by decide); omega) (b2i_n0.mp q)
  have e49 : ax_i h' 77 49 = nI w := by rw [(hs.2 49 (by unfold hd_J; decide)).1]; exact ai_eq
  refine c_findFits a ok ⟨⟨sm_tr hs1 (sm_tr hs2 (hd_md hs)), _, hm.1⟩, e49⟩ hw (fun h2 dd hd M => ⟨rfl, ?_⟩)
  obtain ⟨pu, mc⟩ := M.1.2
  have s0 := mc.1.1.1
  have fin : ∀ v : Int32, Ret (some (.int v)) h2 := fun v => hq v h2 M.1.1
  obtain ⟨e1, e2⟩ := mo_mb mc.1.1
  have rg : ∀ (b : Nat) (y : Int32), b ≤ 50 → (nI (b + 1) ≤ y ∧ y ≤ nI (b + dd)) → ∃ i, i < 3 ∧ y = nI (b + 1 + i) := fun b y hb q => by
    have y1 := i_le.mp q.1
    have y2 := i_le.mp q.2
    rw [nI_toInt (by omega)] at y1 y2
    obtain ⟨m, m1, m2, rfl⟩ := i_rng (a := b + 1) (b := b + dd) (by omega) (by omega) q.1 q.2
    obtain ⟨i, rfl⟩ := Nat.exists_eq_add_of_le m1
    exact ⟨i, by omega, rfl⟩
  refine ⟨s0, ?_⟩
  rw [M.2.2, show (9 : Int32) + nI dd = nI (9 + dd) from ni_c 9 _]
  refine c_min ⟨_, rfl, fun _ => ⟨fun _ => ⟨s0, ?_⟩, fun _ => ⟨s0, fin _⟩⟩, fun q => ⟨s0, _, e1, by rw [e2], ?_, s0, c_monlyOne M (fun v => ⟨_, rfl, fin _⟩)⟩⟩
  · rw [M.2.2, show (19 : Int32) + nI dd = nI (19 + dd) from ni_c 19 _]
    refine c_min ⟨_, rfl, fun _ => fin _, fun q => ⟨s0, _, e1, by rw [e2], ?_, fin _⟩⟩
    obtain ⟨i, hi, rfl⟩ := rg 19 _ (by decide) (of_decide_eq_true (b2i_n0.mp q))
    rw [e2, show nI (19 + 1 + i) - 20 = nI i from ni_sb (b := 20)]; exact vp_in_nI (by omega) (by decide)
  · obtain ⟨i, hi, rfl⟩ := rg 9 _ (by decide) (of_decide_eq_true (b2i_n0.mp q))
    rw [e2, show nI (9 + 1 + i) - 10 = nI i from ni_sb (b := 10)]; exact vp_in_nI (by omega) (by decide)
theorem n_fits (a : IV h S Im tp) (b : 103 ≤ h.1 ∧ h.1 ≤ B) (x1 x2 x3 : Int32) : prN (mX9_fits g) (mX10_fits g) [.ref 0, .int x1, .int x2, .int x3] [.ref 77, .int x1, .int x2, .int x3] h (inv B) := pr_n a b (fun Ret k => t9_fits (iv_tc a) a.1.1.2.2.2.2.1 k) (fun h1 Ret a1 k => t10_fits (iv_tc a1) k)
end
end

section
section
variable {g : ax_G} {Ret : Option Value → ax_H → Prop} {h : ax_H} {z : Nat → Nat} {DD : Nat → rD} {N : Nat → Nat → Nat} {C : Nat → Nat → Nat → Nat → Int32} {S : sT} {Im : Nat → Option sT} {tp : Nat → Nat} {B : Nat}
/-! PLAN and FREE, of the reference -/
def cN : Int64 := -1000000000000
theorem or_nI (a b : Nat) : nI a ||| nI b = nI (a ||| b) := by
  refine Int32.toBitVec_inj.mp ?_
  rw [Int32.toBitVec_or]
  exact (BitVec.ofNat_or).symm
theorem sh_12 : ∀ q, q ≤ 12 → (1 : Int32) <<< (nI q &&& 31) = nI (2 ^ q) := by decide +kernel
theorem or_lt {m q H : Nat} (hm : m < 2 ^ H) (hq : q < H) : m ||| 2 ^ q < 2 ^ H := Nat.or_lt_two_pow hm (Nat.pow_lt_pow_right (by decide) hq)
theorem p_12 : ∀ q, q ≤ 12 → 1 ≤ 2 ^ q ∧ 2 ^ q ≤ 4096 := by decide
theorem cmp_eq {x y : Int64} : lg_cmp x y = 0 ↔ x = y := by
  unfold lg_cmp
  constructor
  · intro q
    split at q
    · cases q
    · split at q
      · assumption
      · cases q
  · intro e
    rw [e, if_neg (by show ¬ y < y; rw [l_lt]; omega), if_pos rfl]
def hasB (m q : Int32) : Prop := ((m >>> (q &&& 31)) &&& 1) = 1
theorem c_mhas {m q : Int32} (h0 : ¬ hasB m q → Ret (some (.int 0)) h) (h1 : hasB m q → Ret (some (.int 1)) h) : mX10_has g [.int m, .int q] h Ret := eX10_has ⟨fun e => ⟨Or.inl rfl, h0 e⟩, fun e => ⟨Or.inr rfl, h1 e⟩⟩
def sp_wa (D : rD) (κ q : Nat) (s : Int32) : Int64 := if s = -1 then (dwo D κ).toInt64 * ((sp_t D (rul D)).toInt64 + (sp_w D (rul D) q).toInt64 * (sp_ti (dmo D κ) 2 - 1).toInt64) else if s = nI q then ((dwo D κ).toInt64 * (sp_t D (rul D)).toInt64) * (sp_ti (dmo D κ) 2).toInt64 else ((dwo D κ).toInt64 * (sp_t D (rul D)).toInt64) * (1 : Int32).toInt64
theorem ti_bd {x : Int32} : 0 ≤ (sp_ti x 2).toInt ∧ (sp_ti x 2).toInt ≤ 2 := by
  unfold sp_ti
  split
  · decide
  · split <;> decide
theorem wa_bd {D : rD} (ok : rd_ok D) {κ q : Nat} (hκ : κ < 6) (s : Int32) : bL 21384 (sp_wa D κ q s) := by
  have bw := ok.2.2.1 κ hκ
  have bt := sp_t_bd ok (rul D)
  have bq := sp_w_bd ok (rul D) q
  have b2 := ti_bd (x := dmo D κ)
  unfold sp_wa
  have m0 : bL 99 (dwo D κ).toInt64 := bL_32 bw
  have mt : bL 108 (sp_t D (rul D)).toInt64 := bL_32 (by omega)
  have m1 : bL 10692 ((dwo D κ).toInt64 * (sp_t D (rul D)).toInt64) := bL_mul (a := 99) (b := 108) (by decide) (by decide) m0 mt (by decide)
  split
  · refine bL_mono (bL_mul (a := 99) (b := 126) (by decide) (by decide) m0 (bL_mono (bL_add mt (bL_mul (a := 9) (b := 2) (by decide) (by decide) (bL_32 (x := sp_w D (rul D) q) (by omega)) (bL_32 (x := sp_ti (dmo D κ) 2 - 1) (by rw [i32_sub (by rw [show (1 : Int32).toInt = 1 from rfl]; omega) (by rw [show (1 : Int32).toInt = 1 from rfl]; omega), show (1 : Int32).toInt = 1 from rfl]; omega)) (by decide)) (by decide)) (by decide)) (by decide)) (by decide)
  · split
    · exact bL_mono (bL_mul (a := 10692) (b := 2) (by decide) (by decide) m1 (bL_32 (by omega)) (by decide)) (by decide)
    · exact bL_mono (bL_mul (a := 10692) (b := 1) (by decide) (by decide) m1 (bL_32 (by decide)) (by decide)) (by decide)
/-- the reference with a republic and a row of errands in hand -/
def pM (h hh : ax_H) (k : Nat) (D : rD) (w n : Nat) (y : Int32) : Prop := ax_same md_F h hh ∧ hm_at hh k D ∧ ax_i hh 77 41 = nI w ∧ ax_i hh 77 42 = nI n ∧ ax_i hh 77 45 = y
theorem hm_mr {J F : Nat → Prop} {hh h2 : ax_H} {k : Nat} {D : rD} (hm : hm_at hh k D) (s : mr J F 77 hh h2) (hJ : ∀ j, J j → j < 25 ∨ (27 < j ∧ j < 32) ∨ 35 < j) (hF : ∀ a, F a → 94 ≤ a ∧ a ≤ 101) : hm_at h2 k D := by
  refine ⟨mc_at_mr s ⟨fun q => ?_, fun q => ?_, fun q => ?_, fun q => ?_, fun q => ?_⟩ ⟨fun q => ?_, fun q => ?_, fun q => ?_, fun q => ?_⟩ hm.1, mw_mr s ⟨fun q => ?_, fun q => ?_⟩ (fun q => ?_) hm.2⟩
  all_goals first | (have := hJ _ q; omega) | (have := hF _ q; omega)
theorem mr_95 {hh : ax_H} {j : Nat} {v : Int64} : mr (fun _ => False) (fun a => a = 95) 77 hh (ax_pl hh 95 j v) := ⟨sm_pl (Or.inr rfl), fun i _ => ⟨rfl, by rw [al_pl, if_neg (by omega)]⟩⟩
theorem pM_95 {hh : ax_H} {k w n j : Nat} {D : rD} {y : Int32} {v : Int64} (M : pM h hh k D w n y) : pM h (ax_pl hh 95 j v) k D w n y := ⟨sm_tr M.1 (sm_pl (by unfold md_F; omega)), hm_mr M.2.1 mr_95 (fun j hj => hj.elim) (fun a ha => by omega), M.2.2.1, M.2.2.2.1, M.2.2.2.2⟩
theorem mo_tl {h : ax_H} {m : Nat} (a : mo_st h m) : ax_r h m 43 = some (m + 18) ∧ ax_s h (m + 18) = (14, 28672) := a.2 17 _ rfl
theorem mo_ch {h : ax_H} {m : Nat} (a : mo_st h m) : ax_r h m 44 = some (m + 19) ∧ ax_s h (m + 19) = (11, 6) := a.2 18 _ rfl
section
variable {hh : ax_H} {k w : Nat} {y : Int32}
/-- an errand's kind and hours -/
def erD (C : Nat → Nat → Nat → Nat → Int32) (w i κ b c : Nat) : Prop := κ < 6 ∧ b ≤ c ∧ c < 12 ∧ C 2 w i 0 = nI κ ∧ C 2 w i 1 = nI b ∧ C 2 w i 2 = nI c
theorem er_at (a : tc h z DD N C) (hw : w < z 2) {i : Nat} (hi : i < N 2 w) : ∃ κ b c, erD C w i κ b c := (a.2.2.2.2.2.2 2 w (by decide) (by decide) hw).2 i hi
theorem c_worthAt {i q κ b c : Nat} {s : Int32} (a : tc h z DD N C) (M : pM h hh k (DD k) w (N 2 w) y) (hw : w < z 2) (hi : i < N 2 w) (E : erD C w i κ b c) (hq0 : q < dH (DD k)) (hq : Ret (some (.long (sp_wa (DD k) κ q s))) hh) : mX10_worthAt g [.ref 77, .int (nI i), .int (nI q), .int s] hh Ret := by
  have t := tc_md M.1 a
  have mb := M.2.1.1.1
  have H12 := mb.2.2.1.1.1
  have s0 := mb.1.1
  have e0 := E.2.2.2.1
  obtain ⟨e1, e2⟩ := mo_we mb.1
  unfold sp_wa at hq
  refine eX10_worthAt ⟨s0, c_merrandOf (j := 0) t.2.1 t.2.2.2.1 t.2.2.2.2 hw M.2.2.1 hi (by decide) ⟨_, rfl, s0, c_mof (i := 8 + κ) mb.1 mb.2.1 mb.2.2.2.1 (by have := E.1; omega) (by rw [e0]; exact ni_c 8 κ) ⟨_, rfl, s0, c_merrandOf (j := 0) t.2.1 t.2.2.2.1 t.2.2.2.2 hw M.2.2.1 hi (by decide) ⟨_, rfl, s0, c_mof (i := 14 + κ) mb.1 mb.2.1 mb.2.2.2.1 (by have := E.1; omega) (by rw [e0]; exact ni_c 14 κ) ⟨_, rfl, c_mtimes ⟨_, rfl, fun q1 => ⟨s0, fun q2 => ?_, fun q2 => ?_⟩, fun q1 => ⟨s0, s0, _, e1, by rw [e2], by rw [e2]; exact vp_in_nI (by omega) (by decide), ?_⟩⟩⟩⟩⟩⟩⟩
  all_goals (try rw [M.2.1.2.2.1])
  · rw [← Nat.add_assoc, mb.2.2.1.2.2.2.2.1 κ E.1]
    rw [if_neg q1, if_neg q2] at hq; exact hq
  · rw [← Nat.add_assoc, ← Nat.add_assoc, mb.2.2.1.2.2.2.2.1 κ E.1, mb.2.2.1.2.2.2.2.2.1 κ E.1]
    rw [if_neg q1, if_pos q2] at hq; exact hq
  · intro z17
    rw [if_pos q1] at hq
    have ez : z17 = (sp_w (DD k) (rul (DD k)) q).toInt64 * (sp_ti (dmo (DD k) κ) 2 - 1).toInt64 := by
      show (ax_i hh (77 + 16) (nI q).toNatClampNeg).toInt64 * (sp_ti (ax_i hh (77 + 6) (164 * k + (14 + κ))) 2 - 1).toInt64 = _
      rw [nI_clamp (by omega), M.2.1.2.1 q hq0, ← Nat.add_assoc, mb.2.2.1.2.2.2.2.2.1 κ E.1]
    rw [ez, ← Nat.add_assoc, mb.2.2.1.2.2.2.2.1 κ E.1]
    exact hq
end
end
end

section
section
variable {g : ax_G} {Ret : Option Value → ax_H → Prop} {h : ax_H} {z : Nat → Nat} {DD : Nat → rD} {N : Nat → Nat → Nat} {C : Nat → Nat → Nat → Nat → Int32} {S : sT} {Im : Nat → Option sT} {tp : Nat → Nat} {B : Nat}
section
variable {hh : ax_H} {k w : Nat} {y : Int32}
/-- a place of the table -/
def tb (hh : ax_H) (i m : Nat) : Int64 := ax_l hh 95 (4096 * i + m)
/-- from which hour on -/
def loF (C : Nat → Nat → Nat → Nat → Int32) (w : Nat) (y : Int32) (i q : Nat) : Prop := y = 0 → ∀ b, C 2 w i 1 = nI b → b < 12 → b ≤ q
def att (hh : ax_H) (C : Nat → Nat → Nat → Nat → Int32) (D : rD) (w : Nat) (y s : Int32) (i m : Nat) (v : Int64) : Prop := ∃ q κ : Nat, κ < 6 ∧ C 2 w i 0 = nI κ ∧ loF C w y i q ∧ q < dH D ∧ ¬ hasB (nI m) (nI q) ∧ tb hh (i + 1) (m ||| 2 ^ q) ≠ cN ∧ tb hh (i + 1) (m ||| 2 ^ q) + sp_wa D κ q s = v
def bQ (n i : Nat) (v : Int64) : Prop := bL (1000000000000 + 21384 * ((n - i : Nat) : Int)) v
theorem c_bestFrom {i m : Nat} {s : Int32} (a : tc h z DD N C) (ok : rd_ok (DD k)) (M : pM h hh k (DD k) w (N 2 w) y) (hw : w < z 2) (hi : i < N 2 w) (hm : m < 2 ^ dH (DD k)) (nx : ∀ m', m' < 2 ^ dH (DD k) → bQ (N 2 w) (i + 1) (tb hh (i + 1) m')) (hq : ∀ v, bQ (N 2 w) i v → (v = cN ∨ att hh C (DD k) w y s i m v) → Ret (some (.long v)) hh) : mX10_bestFrom g 8 [.ref 77, .int (nI i), .int (nI m), .int s] hh Ret := by
  have t := tc_md M.1 a
  have mb := M.2.1.1.1
  have s0 := mb.1.1
  have H12 := ok.1.2
  have pH := p_12 (dH (DD k)) H12
  have n6 : N 2 w ≤ 6 := (a.2.2.2.2.2.2 2 w (by decide) (by decide) hw).1
  obtain ⟨κ, b, c, E⟩ := er_at a hw hi
  obtain ⟨e1, e2⟩ := mo_tl mb.1
  refine uX10_bestFrom (fun A hA => vX10_bestFrom_0 hA ⟨s0, ?_⟩)
  have key : ∀ f q : Nat, q + f = 13 → loF C w y i q → ∀ (x4 : Int64) (o7 o8 o9 o10 : Option Value), bQ (N 2 w) i x4 → (x4 = cN ∨ att hh C (DD k) w y s i m x4) → A (12, [some (.ref 77), some (.int (nI i)), some (.int (nI m)), some (.int s), some (.long x4), none, some (.int (nI q)), o7, o8, o9, o10], [], hh, 0, 0) := by
    intro f
    induction f with
    | zero =>
      intro q hf lo x4 o7 o8 o9 o10 bx ax
      have gt : ∀ x : Int32, x = nI c ∨ x = 11 → x < nI q := fun x hx => by
        rcases hx with rfl | rfl
        · exact nI_lt (by have := E.2.2.1; omega) (by omega)
        · exact nI_lt (a := 11) (by omega) (by omega)
      refine vX10_bestFrom_12 hA ⟨s0, eX10_toOf ⟨s0, fun _ => ⟨s0, c_merrandOf (j := 2) t.2.1 t.2.2.2.1 t.2.2.2.2 hw M.2.2.1 hi (by decide) ⟨_, rfl, _, rfl, fun _ => hq _ bx ax, fun q1 => ?_⟩⟩, fun _ => ⟨_, rfl, fun _ => hq _ bx ax, fun q1 => ?_⟩⟩⟩
      · exact absurd (gt _ (Or.inl E.2.2.2.2.2)) q1
      · exact absurd (gt _ (Or.inr rfl)) q1
    | succ f ih =>
      intro q hf lo x4 o7 o8 o9 o10 bx ax
      have lo1 : loF C w y i (q + 1) := fun h1 b h2 h3 => Nat.le_succ_of_le (lo h1 b h2 h3)
      have K : ∀ (x4 : Int64) (o7 o8 o9 o10 : Option Value), bQ (N 2 w) i x4 → (x4 = cN ∨ att hh C (DD k) w y s i m x4) → A (12, [some (.ref 77), some (.int (nI i)), some (.int (nI m)), some (.int s), some (.long x4), none, some (.int (nI q + 1)), o7, o8, o9, o10], [], hh, 0, 0) := fun x4 o7 o8 o9 o10 bx ax => by rw [← nI_succ]; exact ih (q + 1) (by omega) lo1 _ _ _ _ _ bx ax
      have bc : bQ (N 2 w) i cN := by unfold bQ bL cN; constructor <;> (have : (-1000000000000 : Int64).toInt = -1000000000000 := by decide); all_goals omega
      refine vX10_bestFrom_12 hA ⟨s0, eX10_toOf ⟨s0, fun _ => ⟨s0, c_merrandOf (j := 2) t.2.1 t.2.2.2.1 t.2.2.2.2 hw M.2.2.1 hi (by decide) ⟨_, rfl, _, rfl, ?_⟩⟩, fun _ => ⟨_, rfl, ?_⟩⟩⟩
      all_goals
        refine ⟨fun _ => hq _ bx ax, fun _ => ⟨s0, fun _ => hq _ bx ax, fun qH => c_mhas (fun nh => ⟨_, rfl, fun q0 => absurd rfl q0, fun _ => ⟨s0, _, e1, ?_⟩⟩) (fun _ => ⟨_, rfl, fun _ => K _ _ _ _ _ bx ax, fun q0 => absurd q0 (by decide)⟩)⟩⟩
        rw [mb.2.2.2.2.1] at qH
        have qlt : q < dH (DD k) := Nat.lt_of_not_le (fun e => qH (nI_le e (by omega)))
        have ml := or_lt hm qlt
        intro z11
        have ez : z11 = nI (4096 * (i + 1) + (m ||| 2 ^ q)) := by
          show (4096 : Int32) * (nI i + 1) + (nI m ||| ((1 : Int32) <<< (nI q &&& 31))) = _
          rw [← nI_succ, show (4096 : Int32) * nI (i + 1) = nI (4096 * (i + 1)) from ni_mul, sh_12 q (by omega), or_nI, nI_add]
        have et : ax_l hh (77 + 18) z11.toNatClampNeg = tb hh (i + 1) (m ||| 2 ^ q) := by rw [ez, nI_clamp (by omega)]; rfl
        refine ⟨by rw [e2], by rw [ez, e2]; exact vp_in_nI (by omega) (by decide), fun ne => ⟨s0, c_worthAt a M hw hi E qlt ⟨_, rfl, fun _ => K _ _ _ _ _ bx ax, fun _ => ?_⟩⟩, fun _ => ⟨fun _ => K _ _ _ _ _ bx ax, fun _ => K _ _ _ _ _ bc (Or.inl rfl)⟩⟩
        rw [et] at ne ⊢
        refine K _ _ _ _ _ ?_ (Or.inr ⟨q, κ, E.1, E.2.2.2.1, lo, qlt, nh, fun e => ne (cmp_eq.mpr e), rfl⟩)
        have b1 := nx _ ml
        unfold bQ at b1 ⊢
        exact bL_mono (bL_add b1 (wa_bd ok E.1 s) (by omega)) (by omega)
  have bc : bQ (N 2 w) i cN := by unfold bQ bL cN; constructor <;> (have : (-1000000000000 : Int64).toInt = -1000000000000 := by decide); all_goals omega
  refine eX10_fromOf ⟨s0, fun e => ⟨s0, c_merrandOf (j := 1) t.2.1 t.2.2.2.1 t.2.2.2.2 hw M.2.2.1 hi (by decide) ⟨_, rfl, _, rfl, ?_⟩⟩, fun e => ⟨_, rfl, ?_⟩⟩
  · rw [E.2.2.2.2.1]
    refine key (13 - b) b (by have := E.2.1; have := E.2.2.1; omega) (fun _ b' eb hb' => ?_) _ _ _ _ _ bc (Or.inl rfl)
    have := (nI_eq (by have := E.2.1; have := E.2.2.1; omega) (by omega)).mp (E.2.2.2.2.1.symm.trans eb)
    omega
  · refine key 13 0 (by decide) (fun y0 => ?_) _ _ _ _ _ bc (Or.inl rfl)
    rw [M.2.2.2.2] at e
    exact absurd y0 e
end
end
end

section
section
variable {g : ax_G} {Ret : Option Value → ax_H → Prop} {h : ax_H} {z : Nat → Nat} {DD : Nat → rD} {N : Nat → Nat → Nat} {C : Nat → Nat → Nat → Nat → Int32} {S : sT} {Im : Nat → Option sT} {tp : Nat → Nat} {B : Nat}
section
variable {hh : ax_H} {k w : Nat} {y : Int32}
theorem tb_pl {i m i2 m2 : Nat} {v : Int64} (h1 : m < 4096) (h2 : m2 < 4096) : tb (ax_pl hh 95 (4096 * i + m) v) i2 m2 = if i2 = i ∧ m2 = m then v else tb hh i2 m2 := by
  unfold tb
  rw [al_pl]
  by_cases e : i2 = i ∧ m2 = m
  · rw [if_pos e, if_pos ⟨rfl, by rw [e.1, e.2]⟩]
  · rw [if_neg e, if_neg (fun q => e (by omega))]
theorem att_pl {i m i2 m2 : Nat} {s : Int32} {v v2 : Int64} {D : rD} (hH : dH D ≤ 12) (h1 : m < 4096) (h2 : m2 < 2 ^ dH D) (hi : i ≤ i2) (a : att hh C D w y s i2 m2 v2) : att (ax_pl hh 95 (4096 * i + m) v) C D w y s i2 m2 v2 := by
  obtain ⟨q, κ, a1, a2, a3, a4, a5, a6, a7⟩ := a
  have l := or_lt h2 a4
  have p := p_12 (dH D) hH
  have e : tb (ax_pl hh 95 (4096 * i + m) v) (i2 + 1) (m2 ||| 2 ^ q) = tb hh (i2 + 1) (m2 ||| 2 ^ q) := by rw [tb_pl h1 (by omega), if_neg (by omega)]
  exact ⟨q, κ, a1, a2, a3, a4, a5, by rw [e]; exact a6, by rw [e]; exact a7⟩
/-- rows above, and the row at hand below a place, are filled -/
def fil (hh : ax_H) (C : Nat → Nat → Nat → Nat → Int32) (D : rD) (w n : Nat) (y s : Int32) (i m0 : Nat) : Prop := ∀ i2 m, i2 ≤ n → m < 2 ^ dH D → (i < i2 ∨ (i2 = i ∧ m < m0)) → bQ n i2 (tb hh i2 m) ∧ (i2 < n → tb hh i2 m = cN ∨ att hh C D w y s i2 m (tb hh i2 m))
def goodT (hh : ax_H) (C : Nat → Nat → Nat → Nat → Int32) (D : rD) (w n : Nat) (y s : Int32) : Prop := ∀ i m, i < n → m < 2 ^ dH D → tb hh i m = cN ∨ att hh C D w y s i m (tb hh i m)
theorem r95 {h2 h3 : ax_H} {j : Nat} {v : Int64} (r : mr (fun _ => False) (fun a => a = 95) 77 h2 h3) : mr (fun _ => False) (fun a => a = 95) 77 h2 (ax_pl h3 95 j v) := mr_tr r mr_95
theorem c_findBest {s : Int32} (a : tc h z DD N C) (ok : rd_ok (DD k)) (M : pM h hh k (DD k) w (N 2 w) y) (hw : w < z 2) (hq : ∀ h2, pM h h2 k (DD k) w (N 2 w) y → mr (fun _ => False) (fun a => a = 95) 77 hh h2 → bQ (N 2 w) 0 (tb h2 0 0) → goodT h2 C (DD k) w (N 2 w) y s → Ret (some (.long (tb h2 0 0))) h2) : mX10_findBest g [.ref 77, .int s] hh Ret := by
  have H12 := ok.1.2
  have pH := p_12 (dH (DD k)) H12
  have n6 : N 2 w ≤ 6 := (a.2.2.2.2.2.2 2 w (by decide) (by decide) hw).1
  have e2H : ∀ h3, pM h h3 k (DD k) w (N 2 w) y → (1 : Int32) <<< (ax_i h3 77 26 &&& 31) = nI (2 ^ dH (DD k)) := fun h3 M3 => by rw [M3.2.1.1.1.2.2.2.2.1]; exact sh_12 _ H12
  have ix : ∀ i m : Nat, (4096 : Int32) * nI i + nI m = nI (4096 * i + m) := fun i m => by rw [show (4096 : Int32) * nI i = nI (4096 * i) from ni_mul, nI_add]
  refine uX10_findBest (fun A hA => vX10_findBest_0 hA ?_)
  have k41 : ∀ j : Nat, j ≤ N 2 w → ∀ h3, pM h h3 k (DD k) w (N 2 w) y → mr (fun _ => False) (fun a => a = 95) 77 hh h3 → fil h3 C (DD k) w (N 2 w) y s j (2 ^ dH (DD k)) → ∀ o3 : Option Value, A (41, [some (.ref 77), some (.int s), some (.int (nI j - 1)), o3], [], h3, 0, 0) := by
    intro j
    induction j with
    | zero =>
      intro hj h3 M3 r3 F o3
      have s0 := M3.2.1.1.1.1.1
      obtain ⟨e1, e2⟩ := mo_tl M3.2.1.1.1.1
      refine vX10_findBest_41 hA ⟨fun _ => ⟨s0, _, e1, by rw [e2], by rw [e2]; exact vp_in_nI (n := 0) (by decide) (by decide), ?_⟩, fun q => absurd (by rw [nI_0]; decide) q⟩
      exact hq h3 M3 r3 (F 0 0 (Nat.zero_le _) (by omega) (Or.inr ⟨rfl, by omega⟩)).1 (fun i m hi hm => (F i m (by omega) hm (by rcases Nat.eq_zero_or_pos i with e | e; exact Or.inr ⟨e, hm⟩; exact Or.inl e)).2 hi)
    | succ i ih =>
      intro hj h3 M3 r3 F o3
      rw [nI_pred]
      have k47 : ∀ f m : Nat, m + f = 2 ^ dH (DD k) → ∀ h4, pM h h4 k (DD k) w (N 2 w) y → mr (fun _ => False) (fun a => a = 95) 77 hh h4 → fil h4 C (DD k) w (N 2 w) y s i m → A (47, [some (.ref 77), some (.int s), some (.int (nI i)), some (.int (nI m))], [], h4, 0, 0) := by
        intro f
        induction f with
        | zero =>
          intro m hm h4 M4 r4 F4
          have s0 := M4.2.1.1.1.1.1
          refine vX10_findBest_47 hA ⟨s0, fun _ => ?_, fun q => ?_⟩
          · rw [← Int32.sub_eq_add_neg]
            exact ih (by omega) h4 M4 r4 (by rw [show 2 ^ dH (DD k) = m by omega]; exact F4) _
          · rw [e2H h4 M4] at q; exact absurd (nI_le (by omega) (by omega)) q
        | succ f ihf =>
          intro m hm h4 M4 r4 F4
          have s0 := M4.2.1.1.1.1.1
          obtain ⟨e1, e2⟩ := mo_tl M4.2.1.1.1.1
          refine vX10_findBest_47 hA ⟨s0, fun q => ?_, fun _ => ⟨s0, _, e1, s0, c_bestFrom a ok M4 hw (by omega) (by omega) (fun m' hm' => (F4 (i + 1) m' (by omega) hm' (Or.inl (by omega))).1) (fun v bv av => ⟨_, rfl, by rw [e2], by rw [ix, e2]; exact vp_in_nI (by omega) (by decide), ?_⟩)⟩⟩
          · rw [e2H h4 M4] at q; exact absurd q (nI_ge (by omega) (by omega))
          · intro u8
            rw [← nI_succ]
            have eu : u8 = ax_pl h4 95 (4096 * i + m) v := by
              show ax_pl h4 95 ((4096 : Int32) * nI i + nI m).toNatClampNeg v = _
              rw [ix, nI_clamp (by omega)]
            rw [eu]
            refine ihf (m + 1) (by omega) _ (pM_95 M4) (r95 r4) (fun i2 m2 h1 h2 h3' => ?_)
            rw [tb_pl (by omega) (by omega)]
            by_cases e : i2 = i ∧ m2 = m
            · rw [if_pos e, e.1, e.2]
              exact ⟨bv, fun _ => av.imp id (att_pl H12 (by omega) (by omega) (Nat.le_refl _))⟩
            · rw [if_neg e]
              have := F4 i2 m2 h1 h2 (by omega)
              exact ⟨this.1, fun hn => (this.2 hn).imp id (att_pl H12 (by omega) h2 (by omega))⟩
      exact vX10_findBest_41 hA ⟨fun q => absurd q (nI_pos (by omega)), fun _ => k47 (2 ^ dH (DD k)) 0 (by omega) h3 M3 r3 (fun i2 m h1 h2 h3' => F i2 m h1 h2 (by omega))⟩
  have k2 : ∀ f m : Nat, m + f = 2 ^ dH (DD k) → ∀ h3, pM h h3 k (DD k) w (N 2 w) y → mr (fun _ => False) (fun a => a = 95) 77 hh h3 → (∀ m', m' < m → tb h3 (N 2 w) m' = 0) → ∀ o3 : Option Value, A (2, [some (.ref 77), some (.int s), some (.int (nI m)), o3], [], h3, 0, 0) := by
    intro f
    induction f with
    | zero =>
      intro m hm h3 M3 r3 F o3
      have s0 := M3.2.1.1.1.1.1
      refine vX10_findBest_2 hA ⟨s0, fun _ => ⟨s0, ?_⟩, fun q => ?_⟩
      · rw [M3.2.2.2.1]
        refine k41 (N 2 w) (Nat.le_refl _) h3 M3 r3 (fun i2 m2 h1 h2 h3' => ?_) _
        have ei : i2 = N 2 w := by omega
        rw [ei, F m2 (by omega)]
        refine ⟨?_, fun q => absurd q (Nat.lt_irrefl _)⟩
        unfold bQ bL
        rw [l_0]; omega
      · rw [e2H h3 M3] at q; exact absurd (nI_le (by omega) (by omega)) q
    | succ f ih =>
      intro m hm h3 M3 r3 F o3
      have s0 := M3.2.1.1.1.1.1
      obtain ⟨e1, e2⟩ := mo_tl M3.2.1.1.1.1
      refine vX10_findBest_2 hA ⟨s0, fun q => ?_, fun _ => ⟨s0, _, e1, s0, by rw [e2], by rw [M3.2.2.2.1, ix, e2]; exact vp_in_nI (by omega) (by decide), ?_⟩⟩
      · rw [e2H h3 M3] at q; exact absurd q (nI_ge (by omega) (by omega))
      · intro u2
        have eu : u2 = ax_pl h3 95 (4096 * N 2 w + m) 0 := by
          show ax_pl h3 95 ((4096 : Int32) * ax_i h3 77 42 + nI m).toNatClampNeg 0 = _
          rw [M3.2.2.2.1, ix, nI_clamp (by omega)]
        rw [eu, ← nI_succ]
        refine ih (m + 1) (by omega) _ (pM_95 M3) (r95 r3) (fun m' hm' => ?_) _
        rw [tb_pl (by omega) (by omega)]
        by_cases e : m' = m
        · rw [if_pos ⟨rfl, e⟩]
        · rw [if_neg (fun q => e q.2)]; exact F m' (by omega)
  exact k2 (2 ^ dH (DD k)) 0 (by omega) hh M mr_rf (fun m' h' => absurd h' (Nat.not_lt_zero _)) _
end
theorem t10_free {x1 x2 x3 : Int32} (a : tc h z DD N C) (hq : ∀ (v : Int32) h', ax_same md_F h h' → Ret (some (.int v)) h') : mX10_free g [.ref 77, .int x1, .int x2, .int x3] h Ret := by
  obtain ⟨a1, T1, hs1⟩ := q_code (v := 0) a.2.1 a.2.2.2.1
  refine eX10_free ⟨a.2.1.1, ?_⟩
  intro u1
  refine ⟨a.2.1.1, c_mhasErrands a1 T1 a.2.2.2.2 (fun h2 r2 e41 e45 e42 => ⟨_, rfl, fun _ => hq _ _ (sm_tr hs1 (sm_mono r2.1 (fun x e => Or.inl (e.resolve_right id)))), fun q => ?_⟩)⟩
  have hs2 : ax_same md_F h h2 := sm_tr hs1 (sm_mono r2.1 (fun x e => Or.inl (e.resolve_right id)))
  have b := tc_md hs2 a
  refine ⟨b.2.1.1, q_handR b.2.1 b.2.2.2.1 b.2.2.2.2 (fun _ => ⟨_, rfl, fun q => absurd rfl q, fun _ => hq _ _ hs2⟩) (fun k hk ex ok h' hs hm => ⟨_, rfl, fun _ => ⟨hm.1.1.1.1, ?_⟩, fun q => absurd q (by decide)⟩)⟩
  obtain ⟨w, hw, ew⟩ := sp_in_ix (by have := a.2.2.2.2.1 2 (by decide); omega) (b2i_n0.mp q)
  subst ew
  rw [sp_in_nI (by have := a.2.2.2.2.1 2 (by decide); omega) hw, if_pos rfl, nI_clamp (by have := a.2.2.2.2.1 2 (by decide); omega)] at e42
  have n6 : N 2 w ≤ 6 := (a.2.2.2.2.2.2 2 w (by decide) (by decide) hw).1
  have M : pM h h' k (DD k) w (N 2 w) 0 := ⟨sm_tr hs2 (hd_md hs), hm, by rw [(hs.2 41 (by unfold hd_J; decide)).1]; exact e41, by rw [(hs.2 42 (by unfold hd_J; decide)).1]; exact e42, by rw [(hs.2 45 (by unfold hd_J; decide)).1]; exact e45⟩
  have f45 : ∀ (h3 : ax_H) (y v : Int32), pM h h3 k (DD k) w (N 2 w) y → pM h (ax_pi h3 77 45 v) k (DD k) w (N 2 w) v := fun h3 y v M3 => ⟨sm_tr M3.1 (sm_pi (Or.inl rfl)), hm_mr M3.2.1 (mr_f (J := fun j => j = 45) (F := fun _ => False) rfl) (fun j hj => by omega) (fun a ha => ha.elim), by rw [ai_pi, if_neg (by decide)]; exact M3.2.2.1, by rw [ai_pi, if_neg (by decide)]; exact M3.2.2.2.1, by rw [ai_pi, if_pos ⟨rfl, rfl⟩]⟩
  refine c_findBest a ok M hw (fun h3 M3 r3 b3 _ => ⟨_, rfl, Or.inr rfl, M3.2.1.1.1.1.1, ?_⟩)
  intro u11
  have M11 : pM h u11 k (DD k) w (N 2 w) 1 := f45 h3 0 1 M3
  refine ⟨M11.2.1.1.1.1.1, c_findBest a ok M11 hw (fun h4 M4 r4 b4 _ => ⟨_, rfl, Or.inl rfl, M4.2.1.1.1.1.1, ?_⟩)⟩
  intro u15
  have M15 : pM h u15 k (DD k) w (N 2 w) 0 := f45 h4 1 0 M4
  refine ⟨fun _ => hq _ _ M15.1, fun _ => ⟨fun _ => ⟨M15.2.1.1.1.1.1, ?_⟩, fun _ => hq _ _ M15.1⟩⟩
  rw [M15.2.1.2.2.1]
  refine c_part ?_ (t_pos ok) ⟨_, rfl, hq _ _ M15.1⟩
  unfold bQ bL at b3 b4
  rw [i64_sub (by omega) (by omega)]; omega
theorem n_free (a : IV h S Im tp) (b : 103 ≤ h.1 ∧ h.1 ≤ B) (x1 x2 x3 : Int32) : prN (mX9_free g) (mX10_free g) [.ref 0, .int x1, .int x2, .int x3] [.ref 77, .int x1, .int x2, .int x3] h (inv B) := pr_n a b (fun Ret k => t9_free (iv_tc a) a.1.1.2.2.2.1 k) (fun h1 Ret a1 k => t10_free (iv_tc a1) k)
end
end

section
section
variable {g : ax_G} {Ret : Option Value → ax_H → Prop} {h : ax_H} {z : Nat → Nat} {DD : Nat → rD} {N : Nat → Nat → Nat} {C : Nat → Nat → Nat → Nat → Int32} {S : sT} {Im : Nat → Option sT} {tp : Nat → Nat} {B : Nat}
section
variable {hh : ax_H} {k w : Nat} {y : Int32}
theorem pM_96 {n j : Nat} {D : rD} {v : Int32} (M : pM h hh k D w n y) : pM h (ax_pi hh 96 j v) k D w n y := ⟨sm_tr M.1 (sm_pi (by unfold md_F; omega)), hm_mr M.2.1 (mr_c (J := fun _ => False) (F := fun a => a = 96) rfl (by decide)) (fun j hj => hj.elim) (fun a ha => by omega), by rw [ai_pi, if_neg (by omega)]; exact M.2.2.1, by rw [ai_pi, if_neg (by omega)]; exact M.2.2.2.1, by rw [ai_pi, if_neg (by omega)]; exact M.2.2.2.2⟩
theorem att_96 {i m j : Nat} {s v : Int32} {v2 : Int64} {D : rD} (a : att hh C D w y s i m v2) : att (ax_pi hh 96 j v) C D w y s i m v2 := a
theorem c_choose10 {s : Int32} (a : tc h z DD N C) (ok : rd_ok (DD k)) (M : pM h hh k (DD k) w (N 2 w) 0) (hw : w < z 2) (G : goodT hh C (DD k) w (N 2 w) 0 s) (n0 : tb hh 0 0 ≠ cN) (hq : ∀ h2, pM h h2 k (DD k) w (N 2 w) 0 → (∀ j, ax_l h2 77 j = ax_l hh 77 j) → Ret none h2) : mX10_choose g [.ref 77, .int s] hh Ret := by
  have H12 := ok.1.2
  have pH := p_12 (dH (DD k)) H12
  have n6 : N 2 w ≤ 6 := (a.2.2.2.2.2.2 2 w (by decide) (by decide) hw).1
  have ix : ∀ i m : Nat, (4096 : Int32) * nI i + nI m = nI (4096 * i + m) := fun i m => by rw [show (4096 : Int32) * nI i = nI (4096 * i) from ni_mul, nI_add]
  refine uX10_choose (fun A hA => vX10_choose_0 hA ?_)
  have key : ∀ f i m : Nat, i + f = N 2 w → m < 2 ^ dH (DD k) → ∀ h3, pM h h3 k (DD k) w (N 2 w) 0 → (∀ j, ax_l h3 77 j = ax_l hh 77 j) → goodT h3 C (DD k) w (N 2 w) 0 s → tb h3 i m ≠ cN → ∀ o4 : Option Value, A (4, [some (.ref 77), some (.int s), some (.int (nI m)), some (.int (nI i)), o4], [], h3, 0, 0) := by
    intro f
    induction f with
    | zero =>
      intro i m hi hm h3 M3 l3 G3 n3 o4
      refine vX10_choose_4 hA ⟨M3.2.1.1.1.1.1, fun _ => hq h3 M3 l3, fun q => ?_⟩
      rw [M3.2.2.2.1] at q; exact absurd (nI_le (by omega) (by omega)) q
    | succ f ih =>
      intro i m hi hm h3 M3 l3 G3 n3 o4
      have t := tc_md M3.1 a
      have s0 := M3.2.1.1.1.1.1
      obtain ⟨e1, e2⟩ := mo_tl M3.2.1.1.1.1
      obtain ⟨f1, f2⟩ := mo_ch M3.2.1.1.1.1
      obtain ⟨κ, b, c, E⟩ := er_at a hw (show i < N 2 w by omega)
      obtain ⟨qs, κ2, g1, g2, g3, g4, g5, g6, g7⟩ := (G3 i m (by omega) hm).resolve_left n3
      have eκ : κ2 = κ := (nI_eq (by have := E.1; omega) (by have := E.1; omega)).mp (g2.symm.trans E.2.2.2.1)
      subst eκ
      have bq : b ≤ qs := g3 rfl b E.2.2.2.2.1 (by have := E.2.1; have := E.2.2.1; omega)
      have k20 : ∀ d q : Nat, q + d = qs → A (20, [some (.ref 77), some (.int s), some (.int (nI m)), some (.int (nI i)), some (.int (nI q))], [], h3, 0, 0) := by
        intro d
        induction d with
        | zero =>
          intro q hd
          have eq : q = qs := by omega
          subst eq
          have ml := or_lt hm g4
          have ez : (4096 : Int32) * (nI i + 1) + (nI m ||| ((1 : Int32) <<< (nI q &&& 31))) = nI (4096 * (i + 1) + (m ||| 2 ^ q)) := by rw [← nI_succ, sh_12 q (by omega), or_nI, ix]
          have vz : vp_in ((4096 : Int32) * (nI i + 1) + (nI m ||| ((1 : Int32) <<< (nI q &&& 31)))) (ax_s h3 (77 + 18)).2 := by rw [ez, e2]; exact vp_in_nI (by omega) (by decide)
          have et : ax_l h3 (77 + 18) ((4096 : Int32) * (nI i + 1) + (nI m ||| ((1 : Int32) <<< (nI q &&& 31)))).toNatClampNeg = tb h3 (i + 1) (m ||| 2 ^ q) := by rw [ez, nI_clamp (by omega)]; rfl
          have s14 : (ax_s h3 (77 + 18)).1 = 14 := by rw [e2]
          refine vX10_choose_20 hA (c_mhas (fun nh => ⟨_, rfl, fun q0 => absurd rfl q0, fun _ => ⟨s0, _, e1, s14, vz, fun qc => ?_, fun qc => ⟨s0, _, e1, s14, vz, s0, c_worthAt a M3 hw (by omega) E g4 ⟨_, rfl, s0, _, e1, s14, by rw [ix, e2]; exact vp_in_nI (by omega) (by decide), fun z0 => ⟨s0, _, f1, by rw [f2], by rw [f2]; exact vp_in_nI (by omega) (by decide), ?_⟩, fun z0 => ?_⟩⟩⟩⟩) (fun hb => absurd hb g5))
          · rw [et] at qc; exact absurd (cmp_eq.mp qc) g6
          · intro u17
            rw [← nI_succ, sh_12 q (by omega), or_nI]
            exact ih (i + 1) (m ||| 2 ^ q) (by omega) ml u17 (pM_96 M3) l3 G3 g6 _
          · refine absurd (cmp_eq.mpr ?_) z0
            rw [et, ix, nI_clamp (by omega)]
            exact g7
        | succ d ihd =>
          intro q hd
          have qH : q < dH (DD k) := by omega
          have ml := or_lt hm qH
          have ez : (4096 : Int32) * (nI i + 1) + (nI m ||| ((1 : Int32) <<< (nI q &&& 31))) = nI (4096 * (i + 1) + (m ||| 2 ^ q)) := by rw [← nI_succ, sh_12 q (by omega), or_nI, ix]
          have vz : vp_in ((4096 : Int32) * (nI i + 1) + (nI m ||| ((1 : Int32) <<< (nI q &&& 31)))) (ax_s h3 (77 + 18)).2 := by rw [ez, e2]; exact vp_in_nI (by omega) (by decide)
          have et : ax_l h3 (77 + 18) ((4096 : Int32) * (nI i + 1) + (nI m ||| ((1 : Int32) <<< (nI q &&& 31)))).toNatClampNeg = tb h3 (i + 1) (m ||| 2 ^ q) := by rw [ez, nI_clamp (by omega)]; rfl
          have s14 : (ax_s h3 (77 + 18)).1 = 14 := by rw [e2]
          have K : A (20, [some (.ref 77), some (.int s), some (.int (nI m)), some (.int (nI i)), some (.int (nI q + 1))], [], h3, 0, 0) := by rw [← nI_succ]; exact ihd (q + 1) (by omega)
          refine vX10_choose_20 hA (c_mhas (fun nh => ⟨_, rfl, fun q0 => absurd rfl q0, fun _ => ⟨s0, _, e1, s14, vz, fun qc => K, fun qc => ⟨s0, _, e1, s14, vz, s0, c_worthAt a M3 hw (by omega) E qH ⟨_, rfl, s0, _, e1, s14, by rw [ix, e2]; exact vp_in_nI (by omega) (by decide), fun z0 => ⟨s0, _, f1, by rw [f2], by rw [f2]; exact vp_in_nI (by omega) (by decide), ?_⟩, fun z0 => K⟩⟩⟩⟩) (fun hb => ⟨_, rfl, fun _ => K, fun q0 => absurd q0 (by decide)⟩))
          intro u17
          rw [← nI_succ, sh_12 q (by omega), or_nI]
          refine ih (i + 1) (m ||| 2 ^ q) (by omega) ml u17 (pM_96 M3) l3 G3 ?_ _
          rw [et] at qc
          exact fun e => qc (cmp_eq.mpr e)
      refine vX10_choose_4 hA ⟨s0, fun q => ?_, fun _ => ⟨s0, c_merrandOf (j := 1) t.2.1 t.2.2.2.1 t.2.2.2.2 hw M3.2.2.1 (by omega) (by decide) ⟨_, rfl, ?_⟩⟩⟩
      · rw [M3.2.2.2.1] at q; exact absurd q (nI_ge (by omega) (by omega))
      · rw [E.2.2.2.2.1]
        exact k20 (qs - b) b (by omega)
  exact key (N 2 w) 0 0 (by omega) (by omega) hh M (fun _ => rfl) G n0 _
theorem t_worthAt {i : Nat} {x s : Int32} (a : tc h z DD N C) (M : pM h hh k (DD k) w (N 2 w) y) (hw : w < z 2) (hi : i < N 2 w) (hs : ¬ s = -1) (hq : ∀ v : Int64, Ret (some (.long v)) hh) : mX10_worthAt g [.ref 77, .int (nI i), .int x, .int s] hh Ret := by
  have t := tc_md M.1 a
  have mb := M.2.1.1.1
  have s0 := mb.1.1
  obtain ⟨κ, b, c, E⟩ := er_at a hw hi
  have e0 := E.2.2.2.1
  exact eX10_worthAt ⟨s0, c_merrandOf (j := 0) t.2.1 t.2.2.2.1 t.2.2.2.2 hw M.2.2.1 hi (by decide) ⟨_, rfl, s0, c_mof (i := 8 + κ) mb.1 mb.2.1 mb.2.2.2.1 (by have := E.1; omega) (by rw [e0]; exact ni_c 8 κ) ⟨_, rfl, s0, c_merrandOf (j := 0) t.2.1 t.2.2.2.1 t.2.2.2.2 hw M.2.2.1 hi (by decide) ⟨_, rfl, s0, c_mof (i := 14 + κ) mb.1 mb.2.1 mb.2.2.2.1 (by have := E.1; omega) (by rw [e0]; exact ni_c 14 κ) ⟨_, rfl, c_mtimes ⟨_, rfl, fun q1 => ⟨s0, fun q2 => hq _, fun q2 => hq _⟩, fun q1 => absurd q1 hs⟩⟩⟩⟩⟩⟩
theorem c_chosenBy {s : Int32} (a : tc h z DD N C) (M : pM h hh k (DD k) w (N 2 w) y) (hw : w < z 2) (hs : ¬ s = -1) (hq : ∀ v : Int64, Ret (some (.long v)) hh) : mX10_chosenBy g [.ref 77, .int s] hh Ret := by
  have n6 : N 2 w ≤ 6 := (a.2.2.2.2.2.2 2 w (by decide) (by decide) hw).1
  have s0 := M.2.1.1.1.1.1
  obtain ⟨f1, f2⟩ := mo_ch M.2.1.1.1.1
  refine uX10_chosenBy (fun A hA => vX10_chosenBy_0 hA ?_)
  have key : ∀ f i : Nat, i + f = N 2 w → ∀ x2 : Int64, A (5, [some (.ref 77), some (.int s), some (.long x2), none, some (.int (nI i))], [], hh, 0, 0) := by
    intro f
    induction f with
    | zero =>
      intro i hi x2
      refine vX10_chosenBy_5 hA ⟨s0, fun _ => hq _, fun q => ?_⟩
      rw [M.2.2.2.1] at q; exact absurd (nI_le (by omega) (by omega)) q
    | succ f ih =>
      intro i hi x2
      refine vX10_chosenBy_5 hA ⟨s0, fun q => ?_, fun _ => ⟨s0, _, f1, by rw [f2], by rw [f2]; exact vp_in_nI (by omega) (by decide), s0, t_worthAt a M hw (by omega) hs (fun v => ⟨_, rfl, ?_⟩)⟩⟩
      · rw [M.2.2.2.1] at q; exact absurd q (nI_ge (by omega) (by omega))
      · rw [← nI_succ]; exact ih (i + 1) (by omega) _
  exact key (N 2 w) 0 (by omega) _
theorem pM_46 {n : Nat} {D : rD} {v : Int64} (M : pM h hh k D w n y) : pM h (ax_pl hh 77 46 v) k D w n y := ⟨sm_tr M.1 (sm_pl (Or.inl rfl)), hm_mr M.2.1 (mr_l (J := fun j => j = 46) (F := fun _ => False) rfl) (fun j hj => by omega) (fun a ha => ha.elim), M.2.2.1, M.2.2.2.1, M.2.2.2.2⟩
theorem c_rued (a : tc h z DD N C) (ok : rd_ok (DD k)) (M : pM h hh k (DD k) w (N 2 w) y) (hw : w < z 2) (hq : ∀ (v : Int32) h2, pM h h2 k (DD k) w (N 2 w) y → bL 108000013856832 (ax_l h2 77 46) → Ret (some (.int v)) h2) : mX10_rued g [.ref 77] hh Ret := by
  have H12 := ok.1.2
  have n6 : N 2 w ≤ 6 := (a.2.2.2.2.2.2 2 w (by decide) (by decide) hw).1
  refine uX10_rued (fun A hA => vX10_rued_0 hA ⟨M.2.1.1.1.1.1, ?_⟩)
  intro u1
  have key : ∀ f i : Nat, i + f = dH (DD k) → ∀ h3, pM h h3 k (DD k) w (N 2 w) y → bL (9000001154736 * i) (ax_l h3 77 46) → ∀ (x1 : Int32) (x2 : Int64) (o5 o6 o7 o8 : Option Value), A (12, [some (.ref 77), some (.int x1), some (.long x2), none, some (.int (nI i)), o5, o6, o7, o8], [], h3, 0, 0) := by
    intro f
    induction f with
    | zero =>
      intro i hi h3 M3 b3 x1 x2 o5 o6 o7 o8
      refine vX10_rued_12 hA ⟨M3.2.1.1.1.1.1, fun _ => hq _ h3 M3 (bL_mono b3 (by omega)), fun q => ?_⟩
      rw [M3.2.1.1.1.2.2.2.2.1] at q; exact absurd (nI_le (by omega) (by omega)) q
    | succ f ih =>
      intro i hi h3 M3 b3 x1 x2 o5 o6 o7 o8
      refine vX10_rued_12 hA ⟨M3.2.1.1.1.1.1, fun q => ?_, fun _ => ⟨M3.2.1.1.1.1.1, c_findBest a ok M3 hw (fun h4 M4 r4 b4 _ => ⟨_, rfl, rfl, M4.2.1.1.1.1.1, M4.2.1.1.1.1.1, ?_⟩)⟩⟩
      · rw [M3.2.1.1.1.2.2.2.2.1] at q; exact absurd q (nI_ge (by omega) (by omega))
      · obtain ⟨e1, e2⟩ := mo_we M4.2.1.1.1.1
        have s11 : (ax_s h4 (77 + 16)).1 = 11 := by rw [e2]
        have v12 : vp_in (nI i) (ax_s h4 (77 + 16)).2 := by rw [e2]; exact vp_in_nI (by omega) (by decide)
        refine ⟨_, e1, s11, v12, M4.2.1.1.1.1.1, ?_⟩
        intro u6
        have M6 : pM h u6 k (DD k) w (N 2 w) y := pM_46 M4
        have b6 : bL (9000001154736 * ((i + 1 : Nat) : Int)) (ax_l u6 77 46) := by
          show bL _ (ax_l (ax_pl h4 77 46 (ax_l h4 77 46 + (ax_i h4 (77 + 16) (nI i).toNatClampNeg).toInt64 * tb h4 0 0)) 77 46)
          rw [al_pl, if_pos ⟨rfl, rfl⟩, nI_clamp (by omega), M4.2.1.2.1 i (by omega), (r4.2 46 id).2]
          have bw := sp_w_bd ok (rul (DD k)) i
          unfold bQ at b4
          exact bL_mono (bL_add b3 (bL_mul (a := 9) (b := 1000000128304) (by decide) (by decide) (bL_32 (x := sp_w (DD k) (rul (DD k)) i) (by omega)) (bL_mono b4 (by omega)) (by decide)) (by omega)) (by omega)
        have K : ∀ (x1 : Int32) (x2 : Int64) (o5 o6 o7 o8 : Option Value), A (12, [some (.ref 77), some (.int x1), some (.long x2), none, some (.int (nI i + 1)), o5, o6, o7, o8], [], u6, 0, 0) := fun x1 x2 o5 o6 o7 o8 => by rw [← nI_succ]; exact ih (i + 1) (by omega) u6 M6 b6 _ _ _ _ _ _
        exact ⟨M6.2.1.1.1.1.1, _, e1, s11, v12, fun _ => ⟨M6.2.1.1.1.1.1, c_chosenBy a M6 hw (nI_nm1 (by omega)) (fun v => ⟨_, rfl, fun _ => ⟨fun _ => K _ _ _ _ _ _, fun _ => K _ _ _ _ _ _⟩, fun _ => ⟨fun _ => K _ _ _ _ _ _, fun _ => K _ _ _ _ _ _⟩⟩)⟩, fun _ => ⟨fun _ => ⟨fun _ => K _ _ _ _ _ _, fun _ => K _ _ _ _ _ _⟩, fun _ => ⟨fun _ => K _ _ _ _ _ _, fun _ => K _ _ _ _ _ _⟩⟩⟩
  exact key (dH (DD k)) 0 (by omega) u1 (pM_46 M) (by show bL _ (ax_l (ax_pl hh 77 46 0) 77 46); rw [al_pl, if_pos ⟨rfl, rfl⟩]; unfold bL; decide) _ _ _ _ _ _
end
end
end

section
section
variable {g : ax_G} {Ret : Option Value → ax_H → Prop} {h : ax_H} {z : Nat → Nat} {DD : Nat → rD} {N : Nat → Nat → Nat} {C : Nat → Nat → Nat → Nat → Int32} {S : sT} {Im : Nat → Option sT} {tp : Nat → Nat} {B : Nat}
theorem t10_plan {x1 x2 x3 : Int32} (a : tc h z DD N C) (hq : ∀ (v : Int32) h', ax_same md_F h h' → Ret (some (.int v)) h') : mX10_plan g [.ref 77, .int x1, .int x2, .int x3] h Ret := by
  obtain ⟨a1, T1, hs1⟩ := q_code (v := 0) a.2.1 a.2.2.2.1
  refine eX10_plan ⟨a.2.1.1, ?_⟩
  intro u1
  refine ⟨a.2.1.1, c_mhasErrands a1 T1 a.2.2.2.2 (fun h2 r2 e41 e45 e42 => ⟨_, rfl, fun _ => hq _ _ (sm_tr hs1 (sm_mono r2.1 (fun x e => Or.inl (e.resolve_right id)))), fun q => ?_⟩)⟩
  have hs2 : ax_same md_F h h2 := sm_tr hs1 (sm_mono r2.1 (fun x e => Or.inl (e.resolve_right id)))
  have b := tc_md hs2 a
  refine ⟨b.2.1.1, q_handR b.2.1 b.2.2.2.1 b.2.2.2.2 (fun _ => ⟨_, rfl, fun _ => hq _ _ hs2, fun q => absurd rfl q⟩) (fun k hk ex ok h' hs hm => ⟨_, rfl, fun q => absurd q (by decide), fun _ => ?_⟩)⟩
  obtain ⟨w, hw, ew⟩ := sp_in_ix (by have := a.2.2.2.2.1 2 (by decide); omega) (b2i_n0.mp q)
  subst ew
  rw [sp_in_nI (by have := a.2.2.2.2.1 2 (by decide); omega) hw, if_pos rfl, nI_clamp (by have := a.2.2.2.2.1 2 (by decide); omega)] at e42
  have n6 : N 2 w ≤ 6 := (a.2.2.2.2.2.2 2 w (by decide) (by decide) hw).1
  have M : pM h h' k (DD k) w (N 2 w) 0 := ⟨sm_tr hs2 (hd_md hs), hm, by rw [(hs.2 41 (by unfold hd_J; decide)).1]; exact e41, by rw [(hs.2 42 (by unfold hd_J; decide)).1]; exact e42, by rw [(hs.2 45 (by unfold hd_J; decide)).1]; exact e45⟩
  have s0 := hm.1.1.1.1
  have tb1 := sp_t_bd ok (rul (DD k))
  have mt : bL 108 (sp_t (DD k) (rul (DD k))).toInt64 := bL_32 (by omega)
  have tt : 0 < ((sp_t (DD k) (rul (DD k))).toInt64 * (sp_t (DD k) (rul (DD k))).toInt64).toInt := by
    have pz : 0 < (sp_t (DD k) (rul (DD k))).toInt * (sp_t (DD k) (rul (DD k))).toInt := Int.mul_pos tb1.1 tb1.1
    have bz := abs_mul (a := 108) (b := 108) (x := (sp_t (DD k) (rul (DD k))).toInt) (y := (sp_t (DD k) (rul (DD k))).toInt) (by decide) (by decide) (by omega) (by omega)
    rw [i64_mul (by rw [i_64]; omega) (by rw [i_64]; omega), i_64]; exact pz
  refine c_min ⟨_, rfl, fun q6 => ⟨s0, ?_⟩, fun _ => ⟨s0, ?_⟩⟩
  · have hx : x3 < 10 := by
      have := (of_decide_eq_true (b2i_n0.mp q6)).2
      rw [i_le] at this; rw [i_lt]; change x3.toInt ≤ 6 at this; change x3.toInt < 10; omega
    refine c_findBest a ok M hw (fun h3 M3 r3 b3 G3 => ⟨_, rfl, fun ne => ⟨M3.2.1.1.1.1.1, c_choose10 a ok M3 hw G3 (fun e => ne (cmp_eq.mpr e)) (fun h4 M4 l4 => ⟨rfl, fun _ => ⟨fun _ => ⟨M4.2.1.1.1.1.1, c_rued a ok M4 hw (fun v h5 M5 b5 => ⟨_, rfl, fun _ => ⟨M5.2.1.1.1.1.1, M5.2.1.1.1.1.1, ?_⟩, fun _ => hq _ _ M5.1⟩)⟩, fun _ => ⟨M4.2.1.1.1.1.1, ?_⟩⟩, fun q => absurd hx q⟩)⟩, fun _ => hq _ _ M3.1⟩)
    · have s5 := M5.2.1.1.1.1.1
      rw [M5.2.1.2.2.1]
      have b46 : -9223372036854775808 < (ax_l h5 77 46).toInt := by unfold bL at b5; omega
      have bd : -9223372036854775808 < (ax_l h5 77 46 - tb h3 0 0 * (sp_t (DD k) (rul (DD k))).toInt64).toInt := by
        have bp := bL_mul (a := 1000000128304) (b := 108) (by decide) (by decide) (bL_mono b3 (by omega)) mt (by decide)
        unfold bL at bp b5
        rw [i64_sub (by omega) (by omega)]; omega
      exact ⟨fun _ => ⟨s5, s5, fun _ => c_part bd tt ⟨_, rfl, hq _ _ M5.1⟩, fun _ => ⟨fun _ => c_part bd tt ⟨_, rfl, hq _ _ M5.1⟩, fun _ => c_part bd tt ⟨_, rfl, hq _ _ M5.1⟩⟩⟩, fun _ => ⟨s5, fun _ => c_part b46 tt ⟨_, rfl, hq _ _ M5.1⟩, fun _ => ⟨fun _ => c_part b46 tt ⟨_, rfl, hq _ _ M5.1⟩, fun _ => c_part b46 tt ⟨_, rfl, hq _ _ M5.1⟩⟩⟩⟩
    · rw [M4.2.1.2.2.1]
      have bd : -9223372036854775808 < (tb h3 0 0).toInt := by unfold bQ bL at b3; omega
      exact ⟨fun _ => c_part bd (t_pos ok) ⟨_, rfl, hq _ _ M4.1⟩, fun _ => c_part bd (t_pos ok) ⟨_, rfl, hq _ _ M4.1⟩⟩
  · rw [M.2.2.2.1, show (9 : Int32) + nI (N 2 w) = nI (9 + N 2 w) from ni_c 9 _]
    refine c_min ⟨_, rfl, fun q10 => ⟨s0, ?_⟩, fun _ => hq _ _ M.1⟩
    have yq := of_decide_eq_true (b2i_n0.mp q10)
    have hx : ∃ i, i < N 2 w ∧ x3 = nI (10 + i) := by
      have y1 := i_le.mp yq.1
      have y2 := i_le.mp yq.2
      rw [nI_toInt (by omega)] at y2
      change (10 : Int) ≤ _ at y1
      obtain ⟨m, m1, m2, rfl⟩ := i_rng (a := 10) (b := 9 + N 2 w) (by omega) (by omega) yq.1 yq.2
      obtain ⟨i, rfl⟩ := Nat.exists_eq_add_of_le m1
      exact ⟨i, by omega, rfl⟩
    obtain ⟨i, hi, rfl⟩ := hx
    refine c_findBest a ok M hw (fun h3 M3 r3 b3 G3 => ⟨_, rfl, fun ne => ⟨M3.2.1.1.1.1.1, c_choose10 a ok M3 hw G3 (fun e => ne (cmp_eq.mpr e)) (fun h4 M4 l4 => ⟨rfl, fun q => absurd q (nI_nlt (b := 10) (by omega) (by omega)), fun _ => ⟨M4.2.1.1.1.1.1, ?_⟩⟩)⟩, fun _ => hq _ _ M3.1⟩)
    obtain ⟨f1, f2⟩ := mo_ch M4.2.1.1.1.1
    exact ⟨_, f1, by rw [f2], by rw [show nI (10 + i) - 10 = nI i from ni_sb, f2]; exact vp_in_nI (by omega) (by decide), hq _ _ M4.1⟩
theorem n_plan (a : IV h S Im tp) (b : 103 ≤ h.1 ∧ h.1 ≤ B) (x1 x2 x3 : Int32) : prN (mX9_plan g) (mX10_plan g) [.ref 0, .int x1, .int x2, .int x3] [.ref 77, .int x1, .int x2, .int x3] h (inv B) := pr_n a b (fun Ret k => t9_plan (iv_tc a) a.1.1.2.2.2.1 k) (fun h1 Ret a1 k => t10_plan (iv_tc a1) k)
end
end

section
section
/-! sums of fractions in least terms -/
theorem l_div {x y : Int64} (hx : -9223372036854775808 < x.toInt) (hy : 0 < y.toInt) : (x / y).toInt = x.toInt.tdiv y.toInt := by
  have b := l_bd x
  have k : (x.toInt.tdiv y.toInt).natAbs ≤ x.toInt.natAbs := by rw [Int.natAbs_tdiv]; exact Nat.div_le_self _ _
  rw [Int64.toInt_div]
  exact Int.bmod_eq_of_le (by omega) (by omega)
theorem gL_toInt {a b : Int64} (hb : 0 < b.toInt) : (gL a b).toInt = (Nat.gcd a.toInt.natAbs b.toInt.natAbs : Nat) ∧ 0 < (gL a b).toInt := by
  have bb := l_bd b
  have h1 : 1 ≤ Nat.gcd a.toInt.natAbs b.toInt.natAbs := Nat.gcd_pos_of_pos_right _ (by omega)
  have h2 : Nat.gcd a.toInt.natAbs b.toInt.natAbs ≤ b.toInt.natAbs := Nat.gcd_le_right _ (by omega)
  have e : (gL a b).toInt = (Nat.gcd a.toInt.natAbs b.toInt.natAbs : Nat) := by
    unfold gL
    show (Int64.ofNat _).toInt = _
    rw [Int64.toInt_ofNat_of_lt (by omega)]
  exact ⟨e, by omega⟩
theorem gL_dvd {a b : Int64} (hb : 0 < b.toInt) : (gL a b).toInt ∣ a.toInt ∧ (gL a b).toInt ∣ b.toInt := by
  rw [(gL_toInt hb).1]
  exact ⟨Int.ofNat_dvd_left.mpr (Nat.gcd_dvd_left _ _), Int.ofNat_dvd_left.mpr (Nat.gcd_dvd_right _ _)⟩
/-- the numbers of a sum -/
def fOk (A B : Int64) (L τ c : Int) : Prop := 0 < B.toInt ∧ B.toInt ∣ L ∧ A.toInt.natAbs * τ ≤ c * B.toInt
theorem f_put {a b : Int64} {L τ c : Int} (ha : -9223372036854775808 < a.toInt) (f : fOk a b L τ c) : fOk (a / gL a b) (b / gL a b) L τ c := by
  obtain ⟨b0, bL', ab⟩ := f
  obtain ⟨ge, g0⟩ := gL_toInt (a := a) b0
  obtain ⟨⟨p, hp⟩, ⟨q, hq⟩⟩ := gL_dvd (a := a) b0
  have eA : (a / gL a b).toInt = p := by rw [l_div ha g0, hp, Int.mul_tdiv_cancel_left _ (by omega)]
  have eB : (b / gL a b).toInt = q := by rw [l_div (by omega) g0, hq, Int.mul_tdiv_cancel_left _ (by omega)]
  unfold fOk
  rw [eA, eB]
  have q0 : 0 < q := by
    rw [hq] at b0
    exact Int.pos_of_mul_pos_left (by rw [Int.mul_comm]; exact b0) g0
  refine ⟨q0, Int.dvd_trans ⟨(gL a b).toInt, by rw [hq, Int.mul_comm]⟩ bL', ?_⟩
  rw [hp, hq, Int.natAbs_mul, Int.natCast_mul, Int.natAbs_of_nonneg (Int.le_of_lt g0), Int.mul_assoc, Int.mul_left_comm c] at ab
  exact Int.le_of_mul_le_mul_left ab g0
theorem f_lcm {x y g p q L : Int} (hx : 0 < x) (hy : 0 < y) (hg : g = (Nat.gcd x.natAbs y.natAbs : Nat)) (g0 : 0 < g) (ep : x = g * p) (eq : y = g * q) (h1 : x ∣ L) (h2 : y ∣ L) : x * q ∣ L := by
  have d := Nat.lcm_dvd (Int.natAbs_dvd_natAbs.mpr h1) (Int.natAbs_dvd_natAbs.mpr h2)
  refine Int.natAbs_dvd_natAbs.mp ?_
  have e : (x * q).natAbs = Nat.lcm x.natAbs y.natAbs := by
    unfold Nat.lcm
    have ey : y.natAbs = Nat.gcd x.natAbs y.natAbs * q.natAbs := by
      have : y.natAbs = g.natAbs * q.natAbs := by rw [eq, Int.natAbs_mul]
      rw [hg, Int.natAbs_natCast] at this
      exact this
    have g1 : 0 < Nat.gcd x.natAbs y.natAbs := by omega
    have e2 : x.natAbs * y.natAbs = Nat.gcd x.natAbs y.natAbs * (x.natAbs * q.natAbs) := by
      calc x.natAbs * y.natAbs = x.natAbs * (Nat.gcd x.natAbs y.natAbs * q.natAbs) := by rw [← ey]
        _ = _ := Nat.mul_left_comm _ _ _
    rw [Int.natAbs_mul, e2, Nat.mul_div_cancel_left _ g1]
  rw [e]; exact d
theorem f_scale {a q τ c B : Int} (q0 : 0 ≤ q) (h : a.natAbs * τ ≤ c * B) : (a * q).natAbs * τ ≤ c * (B * q) := by
  rw [Int.natAbs_mul, Int.natCast_mul, Int.natAbs_of_nonneg q0]
  have := Int.mul_le_mul_of_nonneg_right h q0
  calc (a.natAbs : Int) * q * τ = a.natAbs * τ * q := by rw [Int.mul_assoc, Int.mul_comm q, ← Int.mul_assoc]
    _ ≤ c * B * q := this
    _ = c * (B * q) := Int.mul_assoc _ _ _
theorem f_add {A B x b : Int64} {L τ c d : Int} (hL : 0 < L) (hL2 : L < 9223372036854775808) (hτ : 0 < τ) (hc : 0 ≤ c) (hd : 0 ≤ d) (big : (c + d) * L < 9223372036854775807 * τ) (f : fOk A B L τ c) (b0 : 0 < b.toInt) (bL' : b.toInt ∣ L) (hx : x.toInt.natAbs * τ ≤ d * b.toInt) : ¬ gL B b = 0 ∧ fOk (A * (b / gL B b) + x * (B / gL B b)) (B * (b / gL B b)) L τ (c + d) ∧ -9223372036854775808 < (A * (b / gL B b) + x * (B / gL B b)).toInt := by
  obtain ⟨B0, BL, AB⟩ := f
  obtain ⟨ge, g0⟩ := gL_toInt (a := B) b0
  obtain ⟨⟨p, hp⟩, ⟨q, hq⟩⟩ := gL_dvd (a := B) b0
  have eB : (B / gL B b).toInt = p := by rw [l_div (by omega) g0, hp, Int.mul_tdiv_cancel_left _ (by omega)]
  have eb : (b / gL B b).toInt = q := by rw [l_div (by omega) g0, hq, Int.mul_tdiv_cancel_left _ (by omega)]
  have p0 : 0 < p := Int.pos_of_mul_pos_left (b := (gL B b).toInt) (by rw [Int.mul_comm, ← hp]; exact B0) g0
  have q0 : 0 < q := Int.pos_of_mul_pos_left (b := (gL B b).toInt) (by rw [Int.mul_comm, ← hq]; exact b0) g0
  have ld : B.toInt * q ∣ L := f_lcm B0 b0 ge g0 hp hq BL bL'
  have n0 : 0 < B.toInt * q := Int.mul_pos B0 q0
  have nL : B.toInt * q ≤ L := Int.le_of_dvd hL ld
  have eN : b.toInt * p = B.toInt * q := by
    calc b.toInt * p = (gL B b).toInt * q * p := by rw [← hq]
      _ = (gL B b).toInt * p * q := by rw [Int.mul_assoc, Int.mul_comm q, ← Int.mul_assoc]
      _ = B.toInt * q := by rw [← hp]
  have s1 : (A.toInt * q).natAbs * τ ≤ c * (B.toInt * q) := f_scale (Int.le_of_lt q0) AB
  have s2 : (x.toInt * p).natAbs * τ ≤ d * (B.toInt * q) := by rw [← eN]; exact f_scale (Int.le_of_lt p0) hx
  have cd : ∀ e : Int, 0 ≤ e → e ≤ c + d → e * (B.toInt * q) < 9223372036854775807 * τ := fun e e0 e1 => by
    have h1 : e * (B.toInt * q) ≤ (c + d) * (B.toInt * q) := Int.mul_le_mul_of_nonneg_right e1 (Int.le_of_lt n0)
    have h2 : (c + d) * (B.toInt * q) ≤ (c + d) * L := Int.mul_le_mul_of_nonneg_left nL (by omega)
    omega
  have sm : (A.toInt * q + x.toInt * p).natAbs * τ ≤ (c + d) * (B.toInt * q) := by
    have h1 : ((A.toInt * q + x.toInt * p).natAbs : Int) ≤ (A.toInt * q).natAbs + (x.toInt * p).natAbs := by omega
    have h2 := Int.mul_le_mul_of_nonneg_right h1 (Int.le_of_lt hτ)
    rw [Int.add_mul] at h2 ⊢
    omega
  have lt : ∀ (v e : Int), v.natAbs * τ ≤ e * (B.toInt * q) → 0 ≤ e → e ≤ c + d → -9223372036854775807 < v ∧ v < 9223372036854775807 := fun v e h1 e0 e1 => by
    have h2 := cd e e0 e1
    have h3 : (v.natAbs : Int) < 9223372036854775807 := Int.lt_of_mul_lt_mul_right (Int.lt_of_le_of_lt h1 h2) (Int.le_of_lt hτ)
    omega
  have l1 := lt _ c s1 hc (by omega)
  have l2 := lt _ d s2 hd (by omega)
  have l3 := lt _ (c + d) sm (by omega) (Int.le_refl _)
  have m1 : (A * (b / gL B b)).toInt = A.toInt * q := by rw [i64_mul (by rw [eb]; omega) (by rw [eb]; omega), eb]
  have m2 : (x * (B / gL B b)).toInt = x.toInt * p := by rw [i64_mul (by rw [eB]; omega) (by rw [eB]; omega), eB]
  have m3 : (B * (b / gL B b)).toInt = B.toInt * q := by rw [i64_mul (by rw [eb]; omega) (by rw [eb]; omega), eb]
  have m4 : (A * (b / gL B b) + x * (B / gL B b)).toInt = A.toInt * q + x.toInt * p := by rw [i64_add (by rw [m1, m2]; omega) (by rw [m1, m2]; omega), m1, m2]
  refine ⟨gL_ne0 b0, ⟨by rw [m3]; exact n0, by rw [m3]; exact ld, by rw [m3, m4]; exact sm⟩, by rw [m4]; omega⟩
end
end

section
section
variable {g : ax_G} {Ret : Option Value → ax_H → Prop} {h : ax_H} {z : Nat → Nat} {DD : Nat → rD} {N : Nat → Nat → Nat} {C : Nat → Nat → Nat → Nat → Int32} {S : sT} {Im : Nat → Option sT} {tp : Nat → Nat} {B : Nat}
/-! HOPE and DOOM, of the class -/
theorem c_put76 {a b : Int64} (s1 : (ax_s h 76).1 = 1) (ha : -9223372036854775808 < a.toInt) (hb : 0 < b.toInt) (hq : ∀ h', ax_same (fun x => x = 76) h h' → ax_l h' 76 0 = a / gL a b → ax_l h' 76 1 = b / gL a b → Ret none h') : mX1_put g [.ref 76, .long a, .long b] h Ret := by
  refine eX1_put (c_side ha hb ⟨_, rfl, s1, ?_⟩)
  intro u4
  refine c_side ha hb ⟨_, rfl, s1, ?_⟩
  intro u8
  refine hq u8 (sm_tr (sm_pl rfl) (sm_pl rfl)) ?_ ?_
  · show ax_l (ax_pl (ax_pl h 76 0 _) 76 1 _) 76 0 = _
    rw [al_pl, if_neg (by decide), al_pl, if_pos ⟨rfl, rfl⟩]; rfl
  · show ax_l (ax_pl (ax_pl h 76 0 _) 76 1 _) 76 1 = _
    rw [al_pl, if_pos ⟨rfl, rfl⟩]; rfl
theorem c_add76 {x b : Int64} {L τ c d : Int} (s1 : (ax_s h 76).1 = 1) (hL : 0 < L) (hL2 : L < 9223372036854775808) (hτ : 0 < τ) (hc : 0 ≤ c) (hd : 0 ≤ d) (big : (c + d) * L < 9223372036854775807 * τ) (f : fOk (ax_l h 76 0) (ax_l h 76 1) L τ c) (b0 : 0 < b.toInt) (bL' : b.toInt ∣ L) (hx : x.toInt.natAbs * τ ≤ d * b.toInt) (hq : ∀ h', ax_same (fun x => x = 76) h h' → fOk (ax_l h' 76 0) (ax_l h' 76 1) L τ (c + d) → Ret none h') : mX1_add g [.ref 76, .long x, .long b] h Ret := by
  obtain ⟨n0, f1, bg⟩ := f_add hL hL2 hτ hc hd big f b0 bL' hx
  refine eX1_add ⟨s1, c_divisor (by have := f.1; omega) b0 ⟨_, rfl, n0, s1, s1, n0, s1, s1, c_put76 s1 bg f1.1 (fun h2 s2 e0 e1 => ⟨rfl, hq h2 s2 ?_⟩)⟩⟩
  rw [e0, e1]; exact f_put bg f1
theorem wd_bd {D : rD} (ok : rd_ok D) (x : Int32) : -1188 ≤ (sp_wd D x).toInt ∧ (sp_wd D x).toInt ≤ 1188 := by
  have H := ok.1.2
  have := sumN_bd (f := fun q => sp_wo D (sp_de D x (nI q))) (a := -99) (b := 99) (n := dH D) (fun i _ => wo_bd ok _) (by decide) (by decide) (by omega) (by omega)
  unfold sp_wd
  omega
theorem vl_bd {D : rD} (ok : rd_ok D) (p q : Nat) : -1287 ≤ (sp_vl D p q).toInt ∧ (sp_vl D p q).toInt ≤ 1287 := by
  have a := wd_bd ok (nI p)
  have b := ex_bd ok (sp_de D (nI p) (nI q)) (sp_mo D (sp_de D (nI p) (nI q)))
  unfold sp_vl sp_ex
  rw [i32_add (by omega) (by omega)]; omega
/-- purses within a bound -/
def hB (b : Int) (P : Nat) (hv : Nat → Int32) : Prop := ∀ p, p < P → -b ≤ (hv p).toInt ∧ (hv p).toInt ≤ b
theorem hB_live {D : rD} {hv : Nat → Int32} {b : Int} {q : Nat} (ok : rd_ok D) (hb : b ≤ 100000) (hq : q < dH D) (a : hB b (dP D) hv) : hB (b + 1287) (dP D) (fun p => hv p + sp_br (dP D) (dH D) (sp_vl D) (nI p) (nI q)) := fun p hp => by
  have h1 := a p hp
  have h2 := vl_bd ok p q
  show -(b + 1287) ≤ (hv p + sp_br (dP D) (dH D) (sp_vl D) (nI p) (nI q)).toInt ∧ (hv p + sp_br (dP D) (dH D) (sp_vl D) (nI p) (nI q)).toInt ≤ b + 1287
  rw [sp_br_in hp hq ok.2.1 ok.1.2, i32_add (by omega) (by omega)]; omega
theorem me_bd {P p : Nat} {hv : Nat → Int32} {b : Int} {x : Int32} (hb : 1 ≤ b) (hP : P ≤ 6) (hp : p < P) (a : hB b P hv) : -b ≤ (sp_me P hv (nI p) x).toInt ∧ (sp_me P hv (nI p) x).toInt ≤ b := by
  unfold sp_me
  split
  · rw [if_neg (by rintro (q | q); exact nI_pos (by omega) q; exact nI_ge hp (by omega) q), nI_clamp (by omega)]; exact a p hp
  · split
    · show -b ≤ (1 : Int) ∧ (1 : Int) ≤ b; omega
    · show -b ≤ (0 : Int) ∧ (0 : Int) ≤ b; omega
theorem c_nextDay {o p r : Nat} {D : rD} {hv : Nat → Int32} {W : Nat → Nat} {t x : Int32} {b : Int} (ok : rd_ok D) (ho : o = 55 ∨ o = 57) (xs : xs_st h) (rc : rc_at h r D) (hr : r + 6 ≤ 52) (co : co_at h 52 (dP D) (dH D) hv (sp_vl D)) (od : od_at h o (dH D) (fun q => nI (W q)) t) (hW : ∀ q, W q ≤ 9) (hp : p < dP D) (b1 : 1 ≤ b) (b2 : b ≤ 100000) (hb : ∀ q, q < dH D → hB b (dP D) (fun p => hv p + sp_br (dP D) (dH D) (sp_vl D) (nI p) (nI q))) (hq : ∀ v h', ax_same (fun a => a = 53) h h' → co_at h' 52 (dP D) (dH D) hv (sp_vl D) → bL (b * (sNn W (dH D) : Int)) v → Ret (some (.long v)) h') : mX9_nextDay g [.ref 0, .ref r, .ref o, .int (nI p), .int x] h Ret := by
  have H12 := ok.1.2
  have s9 : ∀ n, sNn W n ≤ 9 * n := fun n => by
    induction n with
    | zero => exact Nat.le_refl _
    | succ n ih => show sNn W n + W n ≤ 9 * (n + 1); have := hW n; omega
  have bl : ∀ n : Nat, n ≤ 12 → b * (sNn W n : Int) ≤ 10800000 := fun n hn => by
    have h1 : (sNn W n : Int) ≤ 108 := by have := s9 n; omega
    have h2 : b * (sNn W n : Int) ≤ 100000 * (sNn W n : Int) := Int.mul_le_mul_of_nonneg_right b2 (by omega)
    omega
  refine uX9_nextDay (fun A hA => vX9_nextDay_0 hA ?_)
  have key : ∀ f i : Nat, i + f = dH D → ∀ hh, ax_same (fun a => a = 53) h hh → co_at hh 52 (dP D) (dH D) hv (sp_vl D) → ∀ x5 : Int64, bL (b * (sNn W i : Int)) x5 → A (6, [some (.ref 0), some (.ref r), some (.ref o), some (.int (nI p)), some (.int x), some (.long x5), none, some (.int (nI i))], [], hh, 0, 0) := by
    intro f
    induction f with
    | zero =>
      intro i hi hh s c x5 b5
      have rc1 := rc_at_same s (fun j hj q => by omega) rc
      refine vX9_nextDay_6 hA ⟨rc1.1.1, fun _ => hq _ hh s c (by rw [show dH D = i by omega]; exact b5), fun q => ?_⟩
      rw [rc1.2.2.1.1] at q; exact absurd (nI_le (by omega) (by omega)) q
    | succ f ih =>
      intro i hi hh s c x5 b5
      have rc1 := rc_at_same s (fun j hj q => by omega) rc
      have x1 := xs_st_same s xs
      refine vX9_nextDay_6 hA ⟨rc1.1.1, fun q => ?_, fun _ => ⟨x1.1, _, x1.2.1.2.2.2.1, c.1.1, c_live c (fun h2 s2 c2 => ⟨rfl, ?_⟩)⟩⟩
      · rw [rc1.2.2.1.1] at q; exact absurd q (nI_ge (by omega) (by omega))
      · have x2 := xs_st_same s2 x1
        have od2 := od_at_same (sm_tr s s2) (by omega) od
        refine ⟨od2.1.1, _, od2.1.2.1, by rw [od2.1.2.2], by rw [od2.1.2.2]; exact vp_in_nI (by omega) (by decide), x2.1, _, x2.2.1.2.2.2.1, c2.1.1, c_measure c2 ⟨_, rfl, x2.1, _, x2.2.1.2.2.2.1, c2.1.1, c_unlive c2 (fun h3 s3 c3 => ⟨rfl, ?_⟩)⟩⟩
        rw [nI_clamp (by omega), od2.2.2.2.2 i (by omega), ← nI_succ]
        have ef : (fun p => hv p + sp_br (dP D) (dH D) (sp_vl D) (nI p) (nI i) - sp_br (dP D) (dH D) (sp_vl D) (nI p) (nI i)) = hv := funext (fun p => Int32.add_sub_cancel _ _)
        have c4 : co_at h3 52 (dP D) (dH D) hv (sp_vl D) := by rw [← ef]; exact c3
        refine ih (i + 1) (by omega) h3 (sm_tr s (sm_tr s2 s3)) c4 _ ?_
        have mb := me_bd (x := x) b1 ok.2.1 hp (hb i (by omega))
        have bi := bl i (by omega)
        have w9 := hW i
        have eW : (nI (W i)).toInt = (W i : Int) := nI_toInt (by omega)
        have m1 := bL_mul (a := (W i : Int)) (b := b) (by omega) (by omega) (bL_32 (x := nI (W i)) (by rw [eW]; omega)) (bL_32 mb) (by have : (W i : Int) * b ≤ 9 * b := Int.mul_le_mul_of_nonneg_right (by omega) (by omega); omega)
        have mm : (W i : Int) * b ≤ 900000 := by have : (W i : Int) * b ≤ 9 * b := Int.mul_le_mul_of_nonneg_right (by omega) (by omega); omega
        refine bL_mono (bL_add b5 m1 (by omega)) ?_
        show b * (sNn W i : Int) + (W i : Int) * b ≤ b * ((sNn W i + W i : Nat) : Int)
        rw [Int.natCast_add, Int.mul_add, Int.mul_comm (W i : Int)]
        exact Int.le_refl _
  exact key (dH D) 0 (by omega) h sm_rf co _ (by show bL (b * 0) 0; rw [Int.mul_zero]; unfold bL; decide)
end
end

section
section
variable {g : ax_G} {Ret : Option Value → ax_H → Prop} {h : ax_H} {z : Nat → Nat} {DD : Nat → rD} {N : Nat → Nat → Nat} {C : Nat → Nat → Nat → Nat → Int32} {S : sT} {Im : Nat → Option sT} {tp : Nat → Nat} {B : Nat}
/-- all people's totals together -/
def pT (D : rD) : Nat → Int
  | 0 => 1
  | n + 1 => pT D n * (sp_t D (nI n)).toInt
theorem pT_bd {D : rD} (ok : rd_ok D) : ∀ n, 1 ≤ pT D n ∧ pT D n ≤ 108 ^ n
  | 0 => ⟨Int.le_refl _, Int.le_refl _⟩
  | n + 1 => by
    have a := pT_bd ok n
    have b := sp_t_bd ok (nI n)
    show 1 ≤ pT D n * (sp_t D (nI n)).toInt ∧ pT D n * (sp_t D (nI n)).toInt ≤ 108 ^ (n + 1)
    refine ⟨Int.mul_pos (by omega) b.1, ?_⟩
    rw [Int.pow_succ]
    exact Int.mul_le_mul a.2 b.2 (by omega) (by omega)
theorem pT_dvd {D : rD} : ∀ {n p : Nat}, p < n → (sp_t D (nI p)).toInt ∣ pT D n
  | 0, p, h => absurd h (Nat.not_lt_zero _)
  | n + 1, p, h => by
    show _ ∣ pT D n * (sp_t D (nI n)).toInt
    by_cases e : p = n
    · rw [e]; exact Int.dvd_mul_left _ _
    · exact Int.dvd_trans (pT_dvd (by omega)) (Int.dvd_mul_right _ _)
def sL (D : rD) : Int := (sp_t D (rul D)).toInt * pT D (dP D)
theorem sL_bd {D : rD} (ok : rd_ok D) : 0 < sL D ∧ sL D ≤ 171382426877952 := by
  have a := pT_bd ok (dP D)
  have b := sp_t_bd ok (rul D)
  have c := p108 (dP D) ok.2.1
  unfold sL
  refine ⟨Int.mul_pos b.1 (by omega), ?_⟩
  have := Int.mul_le_mul b.2 (Int.le_trans a.2 c) (by omega) (by decide)
  omega
theorem sNn_mono {W : Nat → Nat} : ∀ {a b : Nat}, a ≤ b → sNn W a ≤ sNn W b := by
  intro a b hab
  induction b with
  | zero => rw [show a = 0 by omega]; exact Nat.le_refl _
  | succ b ih =>
    rcases Nat.lt_or_ge b a with q | q
    · rw [show a = b + 1 by omega]; exact Nat.le_refl _
    · exact Nat.le_trans (ih q) (Nat.le_add_right _ _)
/-- no sum of such terms is too big -/
theorem s_big {D : rD} {t e : Int} (ok : rd_ok D) (ht : 0 < t) (he : e ≤ 42876 * t) : e * sL D < 9223372036854775807 * t := by
  have a := sL_bd ok
  have h1 : e * sL D ≤ 42876 * t * sL D := Int.mul_le_mul_of_nonneg_right he (Int.le_of_lt a.1)
  have h2 : 42876 * t * sL D = t * (42876 * sL D) := by rw [Int.mul_comm 42876 t, Int.mul_assoc]
  have h3 : t * (42876 * sL D) < t * 9223372036854775807 := Int.mul_lt_mul_of_pos_left (by omega) ht
  rw [Int.mul_comm 9223372036854775807 t]
  omega
theorem c_expected {x1 x2 x3 x4 : Int32} (a : tc h z DD N C) (h0 : ∀ h', ax_same cl_F h h' → Ret (some (.int 0)) h') (h1 : ∀ h', ax_same cl_F h h' → Ret (some (.int 1)) h') : mX9_expected g [.ref 0, .int x1, .int x2, .int x3, .int x4] h Ret := by
  refine uX9_expected (fun A hA => vX9_expected_0 hA ⟨a.1.1, q_begun a (fun q => Or.inr ⟨rfl, Or.inl rfl, h0 h sm_rf⟩) (fun k hk ex ok h' hs xs hc => Or.inl ⟨_, rfl, hc.1.1.1, c_hasPerson hc.1 ⟨_, rfl, fun _ => ⟨Or.inl rfl, h0 h' hs⟩, fun qp => ⟨fun _ => ⟨Or.inl rfl, h0 h' hs⟩, fun _ => ⟨fun _ => ⟨xs.1, _, xs.2.1.2.2.2.2.2.2.2.2, xs.2.2.2.2.2, c_put76 xs.2.2.2.2.2 (by decide) (by decide) (fun h2 s2 e0 e1 => ⟨rfl, ?_⟩)⟩, fun _ => ⟨Or.inl rfl, h0 h' hs⟩⟩⟩⟩⟩)⟩)
  have H12 := ok.1.2
  have P6 := ok.2.1
  have k2 : k < 2 := by have := a.2.2.2.2.1 0 (by decide); omega
  obtain ⟨p, hp, rfl⟩ := sp_in_ix (by omega) (b2i_n0.mp qp)
  obtain ⟨W, hW, hT⟩ := w_sum ok (rul (DD k))
  have fw : sp_w (DD k) (rul (DD k)) = fun q => nI (W q) := funext (fun q => (hW q).1)
  have xs2 := xs_st_same s2 xs
  have rc2 := rc_at_same s2 (fun j hj q => by omega) hc.1
  have co2 := co_at_same s2 (by decide) hc.2.1
  have od2 := od_at_same s2 (by decide) hc.2.2
  have cs2 : ax_same cl_F h h2 := sm_tr hs (sm_mono s2 (fun x e => by unfold cl_F; omega))
  have hb0 : hB 999 (dP (DD k)) (dpu (DD k)) := fun p hp => by have := ok.2.2.2.2.1 p hp; omega
  have cl53 : ∀ h3 h4, ax_same (fun a => a = 53) h3 h4 → ax_same cl_F h3 h4 := fun h3 h4 s => sm_mono s (fun x e => by unfold cl_F; omega)
  have cl76 : ∀ h3 h4, ax_same (fun a => a = 76) h3 h4 → ax_same cl_F h3 h4 := fun h3 h4 s => sm_mono s (fun x e => by unfold cl_F; omega)
  refine ⟨fun _ => ⟨fun _ => ?_, fun _ => ⟨xs2.1, _, xs2.2.1.2.2.2.2.2.2.2.2, xs2.1, _, xs2.2.1.2.2.2.2.1, xs2.1, c_nextDay (W := W) (b := 2286) ok (Or.inl rfl) xs2 rc2 (by omega) co2 (by rw [← fw]; exact od2) (fun q => (hW q).2) hp (by decide) (by decide) (fun q hq => hB_live ok (by decide) hq hb0) (fun v h3 s3 c3 b3 => ⟨_, rfl, ?_⟩)⟩⟩, fun _ => ⟨xs2.1, _, xs2.2.1.2.2.2.2.2.2.2.2, xs2.1, _, xs2.2.1.2.2.2.1, co2.1.1, c_measure co2 ⟨_, rfl, xs2.2.2.2.2.2, c_put76 xs2.2.2.2.2.2 (by rw [i_64]; have := i_bd (sp_me (dP (DD k)) (dpu (DD k)) (nI p) x4); omega) (by decide) (fun h3 s3 _ _ => ⟨rfl, Or.inr rfl, h1 h3 (sm_tr cs2 (cl76 _ _ s3))⟩)⟩⟩⟩
  · have T0 : (sp_t (DD k) (rul (DD k))).toInt = (sNn W (dH (DD k)) : Int) := by
      have tb1 := sp_t_bd ok (rul (DD k))
      have s9 : ∀ n, sNn W n ≤ 9 * n := fun n => by
        induction n with
        | zero => exact Nat.le_refl _
        | succ n ih => show sNn W n + W n ≤ 9 * (n + 1); have := (hW n).2; omega
      rw [hT, nI_toInt (by have := s9 (dH (DD k)); omega)]
    have tb0 := sp_t_bd ok (rul (DD k))
    have L0 := sL_bd ok
    have key : ∀ f i : Nat, i + f = dH (DD k) → ∀ hh, ax_same cl_F h hh → co_at hh 52 (dP (DD k)) (dH (DD k)) (dpu (DD k)) (sp_vl (DD k)) → od_at hh 55 (dH (DD k)) (sp_w (DD k) (rul (DD k))) (sp_t (DD k) (rul (DD k))) → fOk (ax_l hh 76 0) (ax_l hh 76 1) (sL (DD k)) (sp_t (DD k) (rul (DD k))).toInt (3573 * (sNn W i : Int)) → ∀ o7 o8 : Option Value, A (106, [some (.ref 0), some (.int x1), some (.int (nI p)), some (.int x3), some (.int x4), some (.ref (6 + 14 * k)), some (.int (nI i)), o7, o8], [], hh, 0, 0) := by
      intro f
      induction f with
      | zero =>
        intro i hi hh s co od F o7 o8
        have rc := (tc_cl s a).2.2.1.2.2.1 k hk
        refine vX9_expected_106 hA ⟨rc.1.1, fun _ => ⟨Or.inr rfl, h1 hh s⟩, fun q => ?_⟩
        have := rc.2.2.1.1
        rw [show ax_i hh (6 + 14 * k) 5 = nI (dH (DD k)) from this] at q; exact absurd (nI_le (by omega) (by omega)) q
      | succ f ih =>
        intro i hi hh s co od F o7 o8
        have t1 := tc_cl s a
        have rc : rc_at hh (6 + 14 * k) (DD k) := t1.2.2.1.2.2.1 k hk
        have x1' := t1.1
        refine vX9_expected_106 hA ⟨rc.1.1, fun q => ?_, fun _ => ⟨x1'.1, _, x1'.2.1.2.2.2.1, co.1.1, c_live co (fun h3 s3 c3 => ⟨rfl, ?_⟩)⟩⟩
        · rw [rc.2.2.1.1] at q; exact absurd q (nI_ge (by omega) (by omega))
        · have cs3 := sm_tr s (cl53 _ _ s3)
          have t3 := tc_cl cs3 a
          have x3' := t3.1
          have rc3 : rc_at h3 (6 + 14 * k) (DD k) := t3.2.2.1.2.2.1 k hk
          refine ⟨x3'.1, _, x3'.2.1.2.2.2.2.2.1, x3'.1, _, x3'.2.1.2.2.2.1, c3.1.1, c_poorest c3 ⟨_, rfl, x3'.2.2.2.2.1.1, c_weigh x3'.2.2.2.2.1 rc3 (fun j hj q => by unfold od_F at q; omega) (fun h4 s4 o4 => ⟨rfl, ?_⟩)⟩⟩
          have s4' : ax_same cl_F h3 h4 := sm_mono s4 (fun x e => by unfold od_F at e; unfold cl_F; omega)
          have cs4 := sm_tr cs3 s4'
          have t4 := tc_cl cs4 a
          have x4' := t4.1
          have rc4 : rc_at h4 (6 + 14 * k) (DD k) := t4.2.2.1.2.2.1 k hk
          have c4 := co_at_same s4 (by refine ⟨?_, ?_, ?_⟩ <;> (intro q; unfold od_F at q; omega)) c3
          obtain ⟨pp, hpp, epp⟩ := (po_ix (P := dP (DD k)) (pu := fun p => dpu (DD k) p + sp_br (dP (DD k)) (dH (DD k)) (sp_vl (DD k)) (nI p) (nI i))).resolve_left (fun e => by unfold sp_po at e; rw [if_neg (by omega)] at e; exact nI_nm1 (by have := poo_le (fun p => dpu (DD k) p + sp_br (dP (DD k)) (dH (DD k)) (sp_vl (DD k)) (nI p) (nI i)) (dP (DD k) - 1); omega) e)
          rw [epp] at o4
          obtain ⟨W2, hW2, hT2⟩ := w_sum ok (nI pp)
          have fw2 : sp_w (DD k) (nI pp) = fun q => nI (W2 q) := funext (fun q => (hW2 q).1)
          refine ⟨x4'.1, _, x4'.2.1.2.2.2.2.2.1, x4'.1, c_nextDay (W := W2) (b := 3573) ok (Or.inr rfl) x4' rc4 (by omega) c4 (by rw [← fw2]; exact o4) (fun q => (hW2 q).2) hp (by decide) (by decide) (fun q hq => hB_live ok (by decide) hq (hB_live ok (by decide) (by omega) hb0)) (fun v h5 s5 c5 b5 => ⟨_, rfl, ?_⟩)⟩
          have cs5 := sm_tr cs4 (cl53 _ _ s5)
          have x5' := (tc_cl cs5 a).1
          refine ⟨x5'.1, _, x5'.2.1.2.2.2.1, c5.1.1, c_unlive c5 (fun h6 s6 c6 => ⟨rfl, ?_⟩)⟩
          have cs6 := sm_tr cs5 (cl53 _ _ s6)
          have x6' := (tc_cl cs6 a).1
          have ef : (fun p => dpu (DD k) p + sp_br (dP (DD k)) (dH (DD k)) (sp_vl (DD k)) (nI p) (nI i) - sp_br (dP (DD k)) (dH (DD k)) (sp_vl (DD k)) (nI p) (nI i)) = dpu (DD k) := funext (fun p => Int32.add_sub_cancel _ _)
          have co6 : co_at h6 52 (dP (DD k)) (dH (DD k)) (dpu (DD k)) (sp_vl (DD k)) := by rw [← ef]; exact c6
          have od6 : od_at h6 55 (dH (DD k)) (sp_w (DD k) (rul (DD k))) (sp_t (DD k) (rul (DD k))) := od_at_same s6 (by decide) (od_at_same s5 (by decide) (od_at_same s4 (by refine ⟨?_, ?_⟩ <;> (intro q; unfold od_F at q; omega)) (od_at_same s3 (by decide) od)))
          have o6 := od_at_same s6 (by decide) (od_at_same s5 (by decide) o4)
          have l6 : ∀ j, ax_l h6 76 j = ax_l hh 76 j := fun j => by rw [(s6.2.2.2 76 (by decide)).2, (s5.2.2.2 76 (by decide)).2, (s4.2.2.2 76 (by unfold od_F; decide)).2, (s3.2.2.2 76 (by decide)).2]
          refine ⟨x6'.1, _, x6'.2.1.2.2.2.2.2.2.2.2, x6'.1, _, x6'.2.1.2.2.2.2.1, od6.1.1, _, od6.1.2.1, by rw [od6.1.2.2], by rw [od6.1.2.2]; exact vp_in_nI (by omega) (by decide), x6'.1, _, x6'.2.1.2.2.2.2.1, od6.1.1, x6'.1, _, x6'.2.1.2.2.2.2.2.1, o6.1.1, x6'.2.2.2.2.2, ?_⟩
          rw [nI_clamp (by omega), od6.2.2.2.2 i (by omega), od6.2.2.2.1, o6.2.2.2.1]
          have tb2 := sp_t_bd ok (nI pp)
          have s92 : ∀ n, sNn W2 n ≤ 9 * n := fun n => by
            induction n with
            | zero => exact Nat.le_refl _
            | succ n ih => show sNn W2 n + W2 n ≤ 9 * (n + 1); have := (hW2 n).2; omega
          have T2 : (sp_t (DD k) (nI pp)).toInt = (sNn W2 (dH (DD k)) : Int) := by rw [hT2, nI_toInt (by have := s92 (dH (DD k)); omega)]
          have bb : ((sp_t (DD k) (rul (DD k))).toInt64 * (sp_t (DD k) (nI pp)).toInt64).toInt = (sp_t (DD k) (rul (DD k))).toInt * (sp_t (DD k) (nI pp)).toInt := by
            have bz := abs_mul (a := 108) (b := 108) (x := (sp_t (DD k) (rul (DD k))).toInt) (y := (sp_t (DD k) (nI pp)).toInt) (by decide) (by decide) (by omega) (by omega)
            rw [i64_mul (by rw [i_64, i_64]; omega) (by rw [i_64, i_64]; omega), i_64, i_64]
          have w9 := (hW i).2
          have eW : (sp_w (DD k) (rul (DD k)) i).toInt = (W i : Int) := by rw [(hW i).1, nI_toInt (by omega)]
          have sm1 : sNn W (i + 1) ≤ sNn W (dH (DD k)) := sNn_mono (by omega)
          have sm2 : sNn W (i + 1) = sNn W i + W i := rfl
          have S2 : sNn W2 (dH (DD k)) ≤ 108 := by have := s92 (dH (DD k)); omega
          refine c_add76 (L := sL (DD k)) (τ := (sp_t (DD k) (rul (DD k))).toInt) (c := 3573 * (sNn W i : Int)) (d := 3573 * (W i : Int)) x6'.2.2.2.2.2 L0.1 (by omega) tb0.1 (by omega) (by omega) (s_big ok tb0.1 (by rw [T0]; omega)) (by rw [l6, l6]; exact F) (by rw [bb]; exact Int.mul_pos tb0.1 tb2.1) (by rw [bb]; exact Int.mul_dvd_mul_left _ (pT_dvd hpp)) ?_ (fun h7 s7 f7 => ⟨rfl, ?_⟩)
          · have hm : (W i : Int) * (3573 * (sNn W2 (dH (DD k)) : Int)) ≤ 9 * (3573 * (sNn W2 (dH (DD k)) : Int)) := Int.mul_le_mul_of_nonneg_right (by omega) (by omega)
            have m := bL_mul (a := (W i : Int)) (b := 3573 * (sNn W2 (dH (DD k)) : Int)) (by omega) (by omega) (bL_32 (x := sp_w (DD k) (rul (DD k)) i) (by rw [eW]; omega)) b5 (by omega)
            unfold bL at m
            have m2 : (((sp_w (DD k) (rul (DD k)) i).toInt64 * v).toInt.natAbs : Int) ≤ (W i : Int) * (3573 * (sNn W2 (dH (DD k)) : Int)) := by omega
            have m3 := Int.mul_le_mul_of_nonneg_right m2 (Int.le_of_lt tb0.1)
            rw [bb, T2]
            refine Int.le_trans m3 (Int.le_of_eq ?_)
            ac_rfl
          · rw [← nI_succ]
            refine ih (i + 1) (by omega) h7 (sm_tr cs6 (cl76 _ _ s7)) (co_at_same s7 (by decide) co6) (od_at_same s7 (by decide) od6) ?_ _ _
            rw [show 3573 * (sNn W (i + 1) : Int) = 3573 * (sNn W i : Int) + 3573 * (W i : Int) from by rw [sm2]; omega]
            exact f7
    refine key (dH (DD k)) 0 (by omega) h2 cs2 co2 od2 ?_ _ _
    rw [e0, e1, show (0 : Int64) / gL 0 1 = 0 from by decide +kernel, show (1 : Int64) / gL 0 1 = 1 from by decide +kernel]
    refine ⟨by decide, ⟨sL (DD k), by rw [show (1 : Int64).toInt = 1 from rfl, Int.one_mul]⟩, ?_⟩
    show (0 : Int) * _ ≤ 3573 * (0 : Int) * _
    rw [Int.zero_mul, Int.mul_zero, Int.zero_mul]
    exact Int.le_refl _
  · have xs3 := xs_st_same s3 xs2
    have od3 := od_at_same s3 (by decide) od2
    have s9 : ∀ n, sNn W n ≤ 9 * n := fun n => by
      induction n with
      | zero => exact Nat.le_refl _
      | succ n ih => show sNn W n + W n ≤ 9 * (n + 1); have := (hW n).2; omega
    have s12 := s9 (dH (DD k))
    refine ⟨xs3.1, _, xs3.2.1.2.2.2.2.1, od3.1.1, xs3.2.2.2.2.2, ?_⟩
    rw [od3.2.2.2.1]
    exact c_put76 xs3.2.2.2.2.2 (by unfold bL at b3; omega) (t_pos ok) (fun h4 s4 _ _ => ⟨rfl, Or.inr rfl, h1 h4 (sm_tr (sm_tr cs2 (cl53 _ _ s3)) (cl76 _ _ s4))⟩)
theorem t9_hope {x1 x2 x3 x4 : Int32} (a : tc h z DD N C) (hq : ∀ (v : Int64) h', ax_same cl_F h h' → Ret (some (.long v)) h') : mX9_hope g [.ref 0, .int x1, .int x2, .int x3, .int x4] h Ret := by
  refine eX9_hope ⟨a.1.1, c_expected a (fun h2 s2 => ⟨_, rfl, fun _ => hq _ h2 s2, fun q => absurd rfl q⟩) (fun h2 s2 => ⟨_, rfl, fun q => absurd q (by decide), fun _ => ?_⟩)⟩
  have xs := (tc_cl s2 a).1
  exact ⟨xs.1, _, xs.2.1.2.2.2.2.2.2.2.2, xs.2.2.2.2.2, eX1_sideOf ⟨fun _ => ⟨xs.2.2.2.2.2, _, rfl, hq _ h2 s2⟩, fun _ => ⟨xs.2.2.2.2.2, _, rfl, hq _ h2 s2⟩⟩⟩
theorem t9_doom {x1 x2 x3 x4 : Int32} (a : tc h z DD N C) (hq : ∀ (v : Int64) h', ax_same cl_F h h' → Ret (some (.long v)) h') : mX9_doom g [.ref 0, .int x1, .int x2, .int x3, .int x4] h Ret := by
  refine eX9_doom ⟨a.1.1, c_expected a (fun h2 s2 => ⟨_, rfl, fun _ => hq _ h2 s2, fun q => absurd rfl q⟩) (fun h2 s2 => ⟨_, rfl, fun q => absurd q (by decide), fun _ => ?_⟩)⟩
  have xs := (tc_cl s2 a).1
  exact ⟨xs.1, _, xs.2.1.2.2.2.2.2.2.2.2, xs.2.2.2.2.2, eX1_sideOf ⟨fun _ => ⟨xs.2.2.2.2.2, _, rfl, hq _ h2 s2⟩, fun _ => ⟨xs.2.2.2.2.2, _, rfl, hq _ h2 s2⟩⟩⟩
end
end

section
section
variable {g : ax_G} {Ret : Option Value → ax_H → Prop} {h : ax_H} {z : Nat → Nat} {DD : Nat → rD} {N : Nat → Nat → Nat} {C : Nat → Nat → Nat → Nat → Int32} {S : sT} {Im : Nat → Option sT} {tp : Nat → Nat} {B : Nat}
/-! HOPE and DOOM, of the reference -/
theorem c_mplus {x b : Int64} {L τ c d : Int} (s1 : (ax_s h 77).1 = 10) (hL : 0 < L) (hL2 : L < 9223372036854775808) (hτ : 0 < τ) (hc : 0 ≤ c) (hd : 0 ≤ d) (big : (c + d) * L < 9223372036854775807 * τ) (f : fOk (ax_l h 77 56) (ax_l h 77 57) L τ c) (b0 : 0 < b.toInt) (bL' : b.toInt ∣ L) (hx : x.toInt.natAbs * τ ≤ d * b.toInt) (hq : ∀ h', mr (fun j => j = 56 ∨ j = 57) (fun _ => False) 77 h h' → fOk (ax_l h' 77 56) (ax_l h' 77 57) L τ (c + d) → Ret none h') : mX10_plus g [.ref 77, .long x, .long b] h Ret := by
  obtain ⟨n0, f1, bg⟩ := f_add hL hL2 hτ hc hd big f b0 bL' hx
  refine eX10_plus ⟨s1, c_common (by have := f.1; omega) b0 ⟨_, rfl, s1, n0, s1, n0, s1, ?_⟩⟩
  intro u4
  refine ⟨s1, n0, s1, ?_⟩
  intro u5
  have e56 : ax_l u5 77 56 = ax_l h 77 56 * (b / gL (ax_l h 77 57) b) + x * (ax_l h 77 57 / gL (ax_l h 77 57) b) := by
    show ax_l (ax_pl (ax_pl h 77 56 _) 77 57 _) 77 56 = _
    rw [al_pl, if_neg (by decide), al_pl, if_pos ⟨rfl, rfl⟩]
  have e57 : ax_l u5 77 57 = ax_l h 77 57 * (b / gL (ax_l h 77 57) b) := by
    show ax_l (ax_pl (ax_pl h 77 56 _) 77 57 (ax_l (ax_pl h 77 56 _) 77 57 * _)) 77 57 = _
    rw [al_pl, if_pos ⟨rfl, rfl⟩, al_pl, if_neg (by decide)]
  refine ⟨s1, s1, c_common (by rw [e56]; exact bg) (by rw [e57]; exact f1.1) ⟨_, rfl, rfl, s1, ?_⟩⟩
  rw [e56, e57]
  have g0 := gL_ne0 (a := ax_l h 77 56 * (b / gL (ax_l h 77 57) b) + x * (ax_l h 77 57 / gL (ax_l h 77 57) b)) f1.1
  refine ⟨g0, s1, ?_⟩
  intro u9
  refine ⟨rfl, s1, g0, s1, ?_⟩
  intro u10
  have r : mr (fun j => j = 56 ∨ j = 57) (fun _ => False) 77 h u10 := mr_tr (mr_tr (mr_tr (mr_l (Or.inl rfl)) (mr_l (Or.inr rfl))) (mr_l (Or.inl rfl))) (mr_l (Or.inr rfl))
  refine hq u10 r ?_
  have d56 : ax_l u10 77 56 = ax_l u5 77 56 / gL (ax_l h 77 56 * (b / gL (ax_l h 77 57) b) + x * (ax_l h 77 57 / gL (ax_l h 77 57) b)) (ax_l h 77 57 * (b / gL (ax_l h 77 57) b)) := by
    show ax_l (ax_pl (ax_pl u5 77 56 _) 77 57 _) 77 56 = _
    rw [al_pl, if_neg (by decide), al_pl, if_pos ⟨rfl, rfl⟩, e56]
  have d57 : ax_l u10 77 57 = ax_l u5 77 57 / gL (ax_l h 77 56 * (b / gL (ax_l h 77 57) b) + x * (ax_l h 77 57 / gL (ax_l h 77 57) b)) (ax_l h 77 57 * (b / gL (ax_l h 77 57) b)) := by
    show ax_l (ax_pl (ax_pl u5 77 56 _) 77 57 (ax_l (ax_pl u5 77 56 _) 77 57 / _)) 77 57 = _
    rw [al_pl, if_pos ⟨rfl, rfl⟩, al_pl, if_neg (by decide)]
  rw [d56, d57, e56, e57]
  exact f_put bg f1
/-- the told purses again -/
theorem c_mbegin {hh : ax_H} {k : Nat} (ok : rd_ok (DD k)) (L : lvm h hh k (DD k)) (hq : ∀ h', mr (fun j => j = 32 ∨ j = 33) (fun a => a = 90 ∨ a = 93) 77 hh h' → ax_same md_F h h' → hm_at h' k (DD k) → Ret none h') : mX10_begin g [.ref 77] hh Ret := by
  have P6 := ok.2.1
  obtain ⟨s, pu, mc, mw⟩ := L
  refine uX10_begin (fun A hA => vX10_begin_0 hA ?_)
  have key : ∀ f i : Nat, i + f = dP (DD k) → ∀ h3, mr noJ (fun a => a = 90) 77 hh h3 → (∀ p, p < i → ax_i h3 90 p = dpu (DD k) p) → A (2, [some (.ref 77), some (.int (nI i))], [], h3, 0, 0) := by
    intro f
    induction f with
    | zero =>
      intro i hi h3 r3 e3
      have mb := mb_at_mr r3 (by unfold noJ; decide) (by decide) mc.1
      refine vX10_begin_2 hA ⟨mb.1.1, fun _ => ⟨mb.1.1, c_mlayOdds (pu := dpu (DD k)) mb (fun p hp => e3 p (by omega)) (fun h4 r4 w4 => ⟨rfl, ?_⟩)⟩, fun q => ?_⟩
      · have r : mr (fun j => j = 32 ∨ j = 33) (fun a => a = 90 ∨ a = 93) 77 hh h4 := mr_tr (mr_mono r3 (fun _ x => x.elim) (fun _ x => Or.inl x)) (mr_mono r4 (fun _ x => x) (fun _ x => Or.inr x))
        refine hq h4 r (sm_tr s (sm_mono r.1 (fun x e => by unfold md_F; omega))) ⟨⟨mb_at_mr r (by decide) (by decide) mc.1, fun p hp => ?_, fun p q hp hq => ?_, fun p q hp hq => ?_⟩, w4⟩
        · rw [mr_e r4 (by decide) (by decide)]; exact e3 p (by omega)
        · rw [mr_e r (by decide) (by decide)]; exact mc.2.2.1 p q hp hq
        · rw [mr_e r (by decide) (by decide)]; exact mc.2.2.2 p q hp hq
      · rw [mb.2.2.2.2.2.1] at q; exact absurd (nI_le (by omega) (by omega)) q
    | succ f ih =>
      intro i hi h3 r3 e3
      have mb := mb_at_mr r3 (by unfold noJ; decide) (by decide) mc.1
      obtain ⟨e1, e2⟩ := mo_pu mb.1
      refine vX10_begin_2 hA ⟨mb.1.1, fun q => ?_, fun _ => ⟨mb.1.1, _, e1, mb.1.1, c_mof (i := 2 + i) mb.1 mb.2.1 mb.2.2.2.1 (by omega) (ni_c 2 i) ⟨_, rfl, by rw [e2], by rw [e2]; exact vp_in_nI (by omega) (by decide), ?_⟩⟩⟩
      · rw [mb.2.2.2.2.2.1] at q; exact absurd q (nI_ge (by omega) (by omega))
      · intro u7
        rw [← nI_succ]
        refine ih (i + 1) (by omega) u7 (mr_tr r3 (mr_c rfl (by decide))) (fun p hp => ?_)
        show ax_i (ax_pi h3 90 (nI i).toNatClampNeg _) 90 p = _
        rw [nI_clamp (by omega), ai_pi]
        by_cases e : p = i
        · rw [if_pos ⟨rfl, e⟩, e, ← Nat.add_assoc, mb.2.2.1.2.2.2.1 i (by omega)]
        · rw [if_neg (fun w => e w.2)]; exact e3 p (by omega)
  exact key (dP (DD k)) 0 (by omega) hh mr_rf (fun p hp => absurd hp (Nat.not_lt_zero _))
end
end

section
section
variable {g : ax_G} {Ret : Option Value → ax_H → Prop} {h : ax_H} {z : Nat → Nat} {DD : Nat → rD} {N : Nat → Nat → Nat} {C : Nat → Nat → Nat → Nat → Int32} {S : sT} {Im : Nat → Option sT} {tp : Nat → Nat} {B : Nat}
/-- the weights of the terms so far -/
def oM (W : Nat → Nat) (H i : Nat) : Nat := i / H * sNn W H + sNn W (i % H)
theorem oM_succ {W : Nat → Nat} {H i : Nat} (hH : 0 < H) : oM W H (i + 1) = oM W H i + W (i % H) := by
  have m := Nat.mod_lt i hH
  have e := Nat.div_add_mod i H
  unfold oM
  by_cases q : i % H + 1 < H
  · have d1 : (i + 1) / H = i / H := by
      rw [show i + 1 = (i % H + 1) + H * (i / H) by omega, Nat.add_mul_div_left _ _ hH, Nat.div_eq_of_lt q, Nat.zero_add]
    have d2 : (i + 1) % H = i % H + 1 := by
      rw [show i + 1 = (i % H + 1) + H * (i / H) by omega, Nat.add_mul_mod_self_left, Nat.mod_eq_of_lt q]
    rw [d1, d2]
    show _ + (sNn W (i % H) + W (i % H)) = _
    omega
  · have e2 : i % H + 1 = H := by omega
    have d0 : i + 1 = H * (i / H + 1) := by rw [Nat.mul_add, Nat.mul_one]; omega
    have d1 : (i + 1) / H = i / H + 1 := by rw [d0, Nat.mul_div_cancel_left _ hH]
    have d2 : (i + 1) % H = 0 := by rw [d0, Nat.mul_mod_right]
    have d3 : sNn W H = sNn W (i % H) + W (i % H) := by
      have : sNn W (i % H + 1) = sNn W (i % H) + W (i % H) := rfl
      rw [e2] at this; exact this
    rw [d1, d2, Nat.add_mul, Nat.one_mul]
    show _ + sNn W H + 0 = _
    rw [d3]; omega
theorem oM_le {W : Nat → Nat} {H i : Nat} (hH : 0 < H) (hi : i ≤ H * H) : oM W H i ≤ H * sNn W H := by
  unfold oM
  by_cases q : i / H < H
  · have h1 : sNn W (i % H) ≤ sNn W H := sNn_mono (Nat.le_of_lt (Nat.mod_lt _ hH))
    have h2 : (i / H + 1) * sNn W H ≤ H * sNn W H := Nat.mul_le_mul_right _ q
    rw [Nat.add_mul, Nat.one_mul] at h2
    omega
  · have d : i / H ≤ H := by have := Nat.div_le_div_right (c := H) hi; rwa [Nat.mul_div_cancel _ hH] at this
    have e : i / H = H := by omega
    have e2 : i % H = 0 := by
      have := Nat.div_add_mod i H
      rw [e] at this
      omega
    rw [e, e2]
    exact Nat.le_refl _
section
variable {hh : ax_H} {k : Nat}
/-- one day of a row -/
theorem day68 {A : ax_S → Prop} (hA : ax_HA (tX10_expect g) Ret A) {i p n c j tot : Nat} {b : Int32} {X Y : Int64} (ok : rd_ok (DD k)) (L : lvm h hh k (DD k)) (hc : c < 1000) (hj : j < n) (hn : n ≤ 2) (o12 : Option Value) (K : ∀ h2 pu x, mc_at hh 77 k (DD k) (dmo (DD k)) pu (sp_vl (DD k)) → x = sp_po (dP (DD k)) pu → mw_at hh 77 (dH (DD k)) (sp_w (DD k) x) (sp_t (DD k) x) x → lvm h h2 k (DD k) → mc_at h2 77 k (DD k) (dmo (DD k)) (fun p => pu p + sp_vl (DD k) p (c % dH (DD k))) (sp_vl (DD k)) → mw_at h2 77 (dH (DD k)) (sp_w (DD k) (sp_po (dP (DD k)) (fun p => pu p + sp_vl (DD k) p (c % dH (DD k))))) (sp_t (DD k) (sp_po (dP (DD k)) (fun p => pu p + sp_vl (DD k) p (c % dH (DD k))))) (sp_po (dP (DD k)) (fun p => pu p + sp_vl (DD k) p (c % dH (DD k)))) → lvR hh h2 → A (68, [some (.ref 77), some (.int (nI p)), some (.int (nI n)), some (.int b), some (.int (nI tot)), some (.int (nI i)), some (.long (X * (sp_w (DD k) x (c % dH (DD k))).toInt64)), none, some (.long (Y * (sp_t (DD k) x).toInt64)), none, some (.int (nI (c / dH (DD k)))), some (.int (nI (j + 1))), o12], [], h2, 0, 0)) : A (68, [some (.ref 77), some (.int (nI p)), some (.int (nI n)), some (.int b), some (.int (nI tot)), some (.int (nI i)), some (.long X), none, some (.long Y), none, some (.int (nI c)), some (.int (nI j)), o12], [], hh, 0, 0) := by
  have H12 := ok.1.2
  have H2 := ok.1.1
  obtain ⟨s, pu, mc, mw⟩ := L
  have s0 := mc.1.1.1
  have e26 := mc.1.2.2.2.2.1
  obtain ⟨e1, e2⟩ := mo_we mc.1.1
  have ne : ¬ ax_i hh 77 26 = 0 := by rw [e26]; exact nI_ne0 (by omega) (by omega)
  have er : nI c - nI c / ax_i hh 77 26 * ax_i hh 77 26 = nI (c % dH (DD k)) := by rw [e26]; exact pk_rem (by omega) (by omega) (by omega)
  have cm : c % dH (DD k) < dH (DD k) := Nat.mod_lt _ (by omega)
  refine vX10_expect_68 hA ⟨fun q => absurd q (nI_ge (by omega) (by omega)), fun _ => ⟨s0, _, e1, s0, ne, by rw [e2], by rw [er, e2]; exact vp_in_nI (by omega) (by decide), ?_⟩⟩
  intro z13
  refine ⟨s0, s0, ne, s0, ?_⟩
  rw [er]
  refine c_mlive mc cm (fun h2 r2 c2 w2 => ⟨rfl, c2.1.1.1, ?_, ?_⟩)
  · rw [c2.1.2.2.2.2.1]; exact nI_ne0 (by omega) (by omega)
  · rw [c2.1.2.2.2.2.1, pk_div (by omega) (by omega) (by omega), ← nI_succ]
    have ez : z13 = sp_w (DD k) (sp_po (dP (DD k)) pu) (c % dH (DD k)) := by
      show ax_i hh (77 + 16) (nI c - nI c / ax_i hh 77 26 * ax_i hh 77 26).toNatClampNeg = _
      rw [er, nI_clamp (by omega)]; exact mw.1 _ cm
    rw [ez, mw.2.1]
    exact K h2 pu _ mc rfl mw ⟨sm_tr s (sm_mono r2.1 (fun x e => by unfold md_F; omega)), _, c2, w2⟩ c2 w2 r2
end
end
end

section
section
variable {g : ax_G} {Ret : Option Value → ax_H → Prop} {h : ax_H} {z : Nat → Nat} {DD : Nat → rD} {N : Nat → Nat → Nat} {C : Nat → Nat → Nat → Nat → Int32} {S : sT} {Im : Nat → Option sT} {tp : Nat → Nat} {B : Nat}
section
variable {hh : ax_H} {k : Nat}
/-- a row's end: its term goes to the sum -/
theorem fin68 {A : ax_S → Prop} (hA : ax_HA (tX10_expect g) Ret A) {i p n tot : Nat} {b x10 : Int32} {X Y : Int64} {c d : Int} {pu : Nat → Int32} (ok : rd_ok (DD k)) (L : lvm h hh k (DD k)) (mc : mc_at hh 77 k (DD k) (dmo (DD k)) pu (sp_vl (DD k))) (hb : hB 3573 (dP (DD k)) pu) (hp : p < dP (DD k)) (hn : n ≤ 2) (f : fOk (ax_l hh 77 56) (ax_l hh 77 57) (sL (DD k)) (sp_t (DD k) (rul (DD k))).toInt c) (hc0 : 0 ≤ c) (hd0 : 0 ≤ d) (big : c + d ≤ 42876 * (sp_t (DD k) (rul (DD k))).toInt) (X0 : 0 ≤ X.toInt ∧ X.toInt ≤ 10000) (Y0 : 0 < Y.toInt) (YL : Y.toInt ∣ sL (DD k)) (hx : X.toInt * 3573 * (sp_t (DD k) (rul (DD k))).toInt ≤ d * Y.toInt) (o12 : Option Value) (K : ∀ h2, lvm h h2 k (DD k) → fOk (ax_l h2 77 56) (ax_l h2 77 57) (sL (DD k)) (sp_t (DD k) (rul (DD k))).toInt (c + d) → ∀ o6 o7 o8 o9 o10 o11 o12 : Option Value, A (44, [some (.ref 77), some (.int (nI p)), some (.int (nI n)), some (.int b), some (.int (nI tot)), some (.int (nI i + 1)), o6, o7, o8, o9, o10, o11, o12], [], h2, 0, 0)) : A (68, [some (.ref 77), some (.int (nI p)), some (.int (nI n)), some (.int b), some (.int (nI tot)), some (.int (nI i)), some (.long X), none, some (.long Y), none, some (.int x10), some (.int (nI n)), o12], [], hh, 0, 0) := by
  have tb0 := sp_t_bd ok (rul (DD k))
  have L0 := sL_bd ok
  have s0 := mc.1.1.1
  have P6 := ok.2.1
  have mX : ∀ m : Int64, bL 3573 m → ((X * m).toInt.natAbs : Int) * (sp_t (DD k) (rul (DD k))).toInt ≤ d * Y.toInt := fun m bm => by
    have h1 := bL_mul (a := X.toInt) (b := 3573) X0.1 (by decide) ⟨by omega, Int.le_refl _⟩ bm (by omega)
    unfold bL at h1
    have h2 : ((X * m).toInt.natAbs : Int) ≤ X.toInt * 3573 := by omega
    exact Int.le_trans (Int.mul_le_mul_of_nonneg_right h2 (Int.le_of_lt tb0.1)) hx
  have pl : ∀ (m : Int64) (K2 : Option Value → ax_H → Prop), bL 3573 m → (∀ h2, lvm h h2 k (DD k) → fOk (ax_l h2 77 56) (ax_l h2 77 57) (sL (DD k)) (sp_t (DD k) (rul (DD k))).toInt (c + d) → K2 none h2) → mX10_plus g [.ref 77, .long (X * m), .long Y] hh K2 := fun m K2 bm hK => c_mplus s0 L0.1 (by omega) tb0.1 hc0 hd0 (s_big ok tb0.1 big) f Y0 YL (mX m bm) (fun h2 r2 f2 => hK h2 (lvm_mr L r2 (fun j hj => by omega) (fun a ha => ha.elim)) f2)
  obtain ⟨e1, e2⟩ := mo_pu mc.1.1
  refine vX10_expect_68 hA ⟨fun _ => ⟨fun _ => ⟨s0, _, e1, by rw [e2], by rw [e2]; exact vp_in_nI (by omega) (by decide), s0, pl _ _ ?_ (fun h2 L2 f2 => ⟨rfl, K h2 L2 f2 _ _ _ _ _ _ _⟩)⟩, fun _ => ⟨s0, fun _ => ⟨s0, pl _ _ (by unfold bL; decide) (fun h2 L2 f2 => ⟨rfl, K h2 L2 f2 _ _ _ _ _ _ _⟩)⟩, fun _ => ⟨s0, pl _ _ (by unfold bL; decide) (fun h2 L2 f2 => ⟨rfl, K h2 L2 f2 _ _ _ _ _ _ _⟩)⟩⟩⟩, fun q => absurd (nI_le (Nat.le_refl n) (by omega)) q⟩
  rw [nI_clamp (by omega), mc.2.1 p hp]
  exact bL_32 (hb p hp)
end
end
end

section
section
variable {g : ax_G} {Ret : Option Value → ax_H → Prop} {h : ax_H} {z : Nat → Nat} {DD : Nat → rD} {N : Nat → Nat → Nat} {C : Nat → Nat → Nat → Nat → Int32} {S : sT} {Im : Nat → Option sT} {tp : Nat → Nat} {B : Nat}
section
variable {hh : ax_H} {k : Nat}
theorem hB_of {h3 : ax_H} {D : rD} {mo pu pv : Nat → Int32} {vl : Nat → Nat → Int32} {b : Int} (a : mc_at h3 77 k D mo pu vl) (c : mc_at h3 77 k D mo pv vl) (hb : hB b (dP D) pu) : hB b (dP D) pv := fun p hp => by rw [← c.2.1 p hp, a.2.1 p hp]; exact hb p hp
theorem hB_vl {D : rD} {pu : Nat → Int32} {b : Int} {q : Nat} (ok : rd_ok D) (hb : b ≤ 100000) (a : hB b (dP D) pu) : hB (b + 1287) (dP D) (fun p => pu p + sp_vl D p q) := fun p hp => by
  have h1 := a p hp
  have h2 := vl_bd ok p q
  show -(b + 1287) ≤ (pu p + sp_vl D p q).toInt ∧ (pu p + sp_vl D p q).toInt ≤ b + 1287
  rw [i32_add (by omega) (by omega)]; omega
theorem sN_9 {W : Nat → Nat} (hW : ∀ q, W q ≤ 9) : ∀ n, sNn W n ≤ 9 * n
  | 0 => Nat.le_refl _
  | n + 1 => by show sNn W n + W n ≤ 9 * (n + 1); have := hW n; have := sN_9 hW n; omega
theorem c_expect {n p : Nat} {b : Int32} (ok : rd_ok (DD k)) (L : lvm h hh k (DD k)) (hn : n ≤ 2) (hp : p < dP (DD k)) (hq : ∀ h2, lvm h h2 k (DD k) → Ret none h2) : mX10_expect g [.ref 77, .int (nI p), .int (nI n), .int b] hh Ret := by
  have H12 := ok.1.2
  have H2 := ok.1.1
  have P6 := ok.2.1
  have tb0 := sp_t_bd ok (rul (DD k))
  obtain ⟨W, hW, hT⟩ := w_sum ok (rul (DD k))
  have s12 := sN_9 (fun q => (hW q).2) (dH (DD k))
  have T0 : (sp_t (DD k) (rul (DD k))).toInt = (sNn W (dH (DD k)) : Int) := by rw [hT, nI_toInt (by omega)]
  have hb0 : hB 999 (dP (DD k)) (dpu (DD k)) := fun p hp => by have := ok.2.2.2.2.1 p hp; omega
  obtain ⟨pu0, mc0, -⟩ := L.2
  have s00 := mc0.1.1.1
  refine uX10_expect (fun A hA => vX10_expect_0 hA ⟨s00, ?_⟩)
  intro u1
  refine ⟨s00, ?_⟩
  intro u2
  have Lu : lvm h u2 k (DD k) := lvm_mr L (mr_tr (mr_l (J := fun j => j = 56 ∨ j = 57) (F := fun _ => False) (Or.inl rfl)) (mr_l (Or.inr rfl))) (fun j hj => by omega) (fun a ha => ha.elim)
  have e26 : ax_i u2 77 26 = nI (dH (DD k)) := mc0.1.2.2.2.2.1
  have f0 : ∀ c, c = (0 : Int) → fOk (ax_l u2 77 56) (ax_l u2 77 57) (sL (DD k)) (sp_t (DD k) (rul (DD k))).toInt c := fun c hc => by
    have e0 : ax_l u2 77 56 = 0 := by show ax_l (ax_pl (ax_pl hh 77 56 0) 77 57 1) 77 56 = 0; rw [al_pl, if_neg (by decide), al_pl, if_pos ⟨rfl, rfl⟩]
    have e1 : ax_l u2 77 57 = 1 := by show ax_l (ax_pl (ax_pl hh 77 56 0) 77 57 1) 77 57 = 1; rw [al_pl, if_pos ⟨rfl, rfl⟩]
    rw [e0, e1, hc]
    refine ⟨by decide, ⟨sL (DD k), by rw [show (1 : Int64).toInt = 1 from rfl, Int.one_mul]⟩, ?_⟩
    show (0 : Int) * _ ≤ (0 : Int) * _
    rw [Int.zero_mul, Int.zero_mul]; exact Int.le_refl _
  have one : (1 : Int64).toInt = 1 := rfl
  -- a start of a row
  have go : ∀ (tot i : Nat) (c d : Int), 0 ≤ c → 0 ≤ d → c + d ≤ 42876 * (sp_t (DD k) (rul (DD k))).toInt → i < 1000 → (n = 0 → d = 3573 * (sp_t (DD k) (rul (DD k))).toInt) → (1 ≤ n → d = 3573 * (W (i % dH (DD k)) : Int)) → ∀ h3, lvm h h3 k (DD k) → fOk (ax_l h3 77 56) (ax_l h3 77 57) (sL (DD k)) (sp_t (DD k) (rul (DD k))).toInt c → (∀ h2, lvm h h2 k (DD k) → fOk (ax_l h2 77 56) (ax_l h2 77 57) (sL (DD k)) (sp_t (DD k) (rul (DD k))).toInt (c + d) → ∀ o6 o7 o8 o9 o10 o11 o12 : Option Value, A (44, [some (.ref 77), some (.int (nI p)), some (.int (nI n)), some (.int b), some (.int (nI tot)), some (.int (nI i + 1)), o6, o7, o8, o9, o10, o11, o12], [], h2, 0, 0)) → ∀ o12 : Option Value, mX10_begin g [.ref 77] h3 (fun v4 h3 => v4 = none ∧ A (68, [some (.ref 77), some (.int (nI p)), some (.int (nI n)), some (.int b), some (.int (nI tot)), some (.int (nI i)), some (.long (1 : Int64)), none, some (.long (1 : Int64)), none, some (.int (nI i)), some (.int 0), o12], [], h3, 0, 0)) := by
    intro tot i c d c0 d0 cd hi dn0 dn1 h3 L3 F3 K o12
    refine c_mbegin ok L3 (fun h4 r4 s4 hm => ⟨rfl, ?_⟩)
    have L4 := lvm_hm s4 hm
    have F4 : fOk (ax_l h4 77 56) (ax_l h4 77 57) (sL (DD k)) (sp_t (DD k) (rul (DD k))).toInt c := by rw [(r4.2 56 (by decide)).2, (r4.2 57 (by decide)).2]; exact F3
    rcases (by omega : n = 0 ∨ n = 1 ∨ n = 2) with rfl | rfl | rfl
    · refine fin68 hA ok L4 hm.1 (fun p hp => by have := hb0 p hp; omega) hp (by decide) F4 c0 d0 cd (by rw [one]; decide) (by decide) ⟨sL (DD k), by rw [one, Int.one_mul]⟩ (by rw [one, dn0 rfl]; omega) _ K
    · refine day68 (n := 1) (j := 0) hA ok L4 hi (by decide) (by decide) _ (fun h5 pu x m5 ex w5 L5 m6 w6 r5 => ?_)
      have exr : x = rul (DD k) := by rw [← w5.2.2]; exact hm.2.2.2
      have hbu := hB_vl (q := i % dH (DD k)) ok (by decide) (hB_of hm.1 m5 hb0)
      have F5 : fOk (ax_l h5 77 56) (ax_l h5 77 57) (sL (DD k)) (sp_t (DD k) (rul (DD k))).toInt c := by rw [(r5.2 56 (by decide)).2, (r5.2 57 (by decide)).2]; exact F4
      have w9 := (hW (i % dH (DD k))).2
      have eX : (1 * (sp_w (DD k) x (i % dH (DD k))).toInt64).toInt = (W (i % dH (DD k)) : Int) := by rw [Int64.one_mul, i_64, exr, (hW _).1, nI_toInt (by omega)]
      have eY : (1 * (sp_t (DD k) x).toInt64).toInt = (sp_t (DD k) (rul (DD k))).toInt := by rw [Int64.one_mul, i_64, exr]
      refine fin68 hA ok L5 m6 (fun p hp => by have := hbu p hp; omega) hp (by decide) F5 c0 d0 cd (by rw [eX]; omega) (by rw [eY]; exact tb0.1) (by rw [eY]; exact Int.dvd_mul_right _ _) ?_ _ K
      rw [eX, eY, dn1 (by decide), Int.mul_comm (W (i % dH (DD k)) : Int) 3573]
      exact Int.le_refl _
    · refine day68 (n := 2) (j := 0) hA ok L4 hi (by decide) (by decide) _ (fun h5 pu x m5 ex w5 L5 m6 w6 r5 => ?_)
      have exr : x = rul (DD k) := by rw [← w5.2.2]; exact hm.2.2.2
      have hbu := hB_vl (q := i % dH (DD k)) ok (by decide) (hB_of hm.1 m5 hb0)
      have F5 : fOk (ax_l h5 77 56) (ax_l h5 77 57) (sL (DD k)) (sp_t (DD k) (rul (DD k))).toInt c := by rw [(r5.2 56 (by decide)).2, (r5.2 57 (by decide)).2]; exact F4
      refine day68 (n := 2) (j := 1) hA ok L5 (Nat.lt_of_le_of_lt (Nat.div_le_self _ _) hi) (by decide) (by decide) _ (fun h7 pv y m7 ey w7 L7 m8 w8 r7 => ?_)
      have hbv := hB_vl (q := i / dH (DD k) % dH (DD k)) ok (by decide) (hB_of m6 m7 hbu)
      have F7 : fOk (ax_l h7 77 56) (ax_l h7 77 57) (sL (DD k)) (sp_t (DD k) (rul (DD k))).toInt c := by rw [(r7.2 56 (by decide)).2, (r7.2 57 (by decide)).2]; exact F5
      obtain ⟨pp, hpp, epp⟩ := (po_ix (P := dP (DD k)) (pu := pv)).resolve_left (fun e => by unfold sp_po at e; rw [if_neg (by omega)] at e; exact nI_nm1 (by have := poo_le pv (dP (DD k) - 1); omega) e)
      rw [epp] at ey
      subst ey
      obtain ⟨W2, hW2, hT2⟩ := w_sum ok (nI pp)
      have s22 := sN_9 (fun q => (hW2 q).2) (dH (DD k))
      have tb2 := sp_t_bd ok (nI pp)
      have T2 : (sp_t (DD k) (nI pp)).toInt = (sNn W2 (dH (DD k)) : Int) := by rw [hT2, nI_toInt (by omega)]
      have w9 := (hW (i % dH (DD k))).2
      have v9 := (hW2 (i / dH (DD k) % dH (DD k))).2
      have vT : W2 (i / dH (DD k) % dH (DD k)) ≤ sNn W2 (dH (DD k)) := by
        have h1 : sNn W2 (i / dH (DD k) % dH (DD k) + 1) ≤ sNn W2 (dH (DD k)) := sNn_mono (Nat.mod_lt _ (by omega))
        have h2 : sNn W2 (i / dH (DD k) % dH (DD k) + 1) = sNn W2 (i / dH (DD k) % dH (DD k)) + W2 (i / dH (DD k) % dH (DD k)) := rfl
        omega
      have eA : (sp_w (DD k) x (i % dH (DD k))).toInt64.toInt = (W (i % dH (DD k)) : Int) := by rw [i_64, exr, (hW _).1, nI_toInt (by omega)]
      have eB : (sp_w (DD k) (nI pp) (i / dH (DD k) % dH (DD k))).toInt64.toInt = (W2 (i / dH (DD k) % dH (DD k)) : Int) := by rw [i_64, (hW2 _).1, nI_toInt (by omega)]
      have eC : (sp_t (DD k) x).toInt64.toInt = (sp_t (DD k) (rul (DD k))).toInt := by rw [i_64, exr]
      have ab := abs_mul (a := 9) (b := 9) (x := (W (i % dH (DD k)) : Int)) (y := (W2 (i / dH (DD k) % dH (DD k)) : Int)) (by decide) (by decide) (by omega) (by omega)
      have nn : (0 : Int) ≤ (W (i % dH (DD k)) : Int) * (W2 (i / dH (DD k) % dH (DD k)) : Int) := Int.mul_nonneg (by omega) (by omega)
      have tt := abs_mul (a := 108) (b := 108) (x := (sp_t (DD k) (rul (DD k))).toInt) (y := (sp_t (DD k) (nI pp)).toInt) (by decide) (by decide) (by omega) (by omega)
      have eX : (1 * (sp_w (DD k) x (i % dH (DD k))).toInt64 * (sp_w (DD k) (nI pp) (i / dH (DD k) % dH (DD k))).toInt64).toInt = (W (i % dH (DD k)) : Int) * (W2 (i / dH (DD k) % dH (DD k)) : Int) := by rw [Int64.one_mul, i64_mul (by rw [eA, eB]; omega) (by rw [eA, eB]; omega), eA, eB]
      have eY : (1 * (sp_t (DD k) x).toInt64 * (sp_t (DD k) (nI pp)).toInt64).toInt = (sp_t (DD k) (rul (DD k))).toInt * (sp_t (DD k) (nI pp)).toInt := by rw [Int64.one_mul, i64_mul (by rw [eC, i_64]; omega) (by rw [eC, i_64]; omega), eC, i_64]
      refine fin68 hA ok L7 m8 hbv hp (by decide) F7 c0 d0 cd (by rw [eX]; omega) (by rw [eY]; exact Int.mul_pos tb0.1 tb2.1) (by rw [eY]; exact Int.mul_dvd_mul_left _ (pT_dvd hpp)) ?_ _ K
      rw [eX, eY, dn1 (by decide), T2]
      have g1 : (W (i % dH (DD k)) : Int) * (W2 (i / dH (DD k) % dH (DD k)) : Int) ≤ (W (i % dH (DD k)) : Int) * (sNn W2 (dH (DD k)) : Int) := Int.mul_le_mul_of_nonneg_left (by omega) (by omega)
      have g2 := Int.mul_le_mul_of_nonneg_right (Int.mul_le_mul_of_nonneg_right g1 (show (0 : Int) ≤ 3573 by decide)) (Int.le_of_lt tb0.1)
      refine Int.le_trans g2 (Int.le_of_eq ?_)
      ac_rfl
  have k44 : ∀ (tot : Nat) (cc dd : Nat → Int), tot ≤ 144 → (∀ i, i < tot → 0 ≤ cc i ∧ 0 ≤ dd i ∧ cc i + dd i ≤ 42876 * (sp_t (DD k) (rul (DD k))).toInt ∧ cc (i + 1) = cc i + dd i ∧ (n = 0 → dd i = 3573 * (sp_t (DD k) (rul (DD k))).toInt) ∧ (1 ≤ n → dd i = 3573 * (W (i % dH (DD k)) : Int))) → ∀ f i : Nat, i + f = tot → ∀ h3, lvm h h3 k (DD k) → fOk (ax_l h3 77 56) (ax_l h3 77 57) (sL (DD k)) (sp_t (DD k) (rul (DD k))).toInt (cc i) → ∀ o6 o7 o8 o9 o10 o11 o12 : Option Value, A (44, [some (.ref 77), some (.int (nI p)), some (.int (nI n)), some (.int b), some (.int (nI tot)), some (.int (nI i)), o6, o7, o8, o9, o10, o11, o12], [], h3, 0, 0) := by
    intro tot cc dd ht hcc f
    induction f with
    | zero =>
      intro i hi h3 L3 F3 o6 o7 o8 o9 o10 o11 o12
      exact vX10_expect_44 hA ⟨fun _ => hq h3 L3, fun q => absurd (nI_le (by omega) (by omega)) q⟩
    | succ f ih =>
      intro i hi h3 L3 F3 o6 o7 o8 o9 o10 o11 o12
      obtain ⟨pu3, mc3, -⟩ := L3.2
      obtain ⟨c1, c2, c3, c4, c5, c6⟩ := hcc i (by omega)
      refine vX10_expect_44 hA ⟨fun q => absurd q (nI_ge (by omega) (by omega)), fun _ => ⟨mc3.1.1.1, go tot i (cc i) (dd i) c1 c2 c3 (by omega) c5 c6 h3 L3 F3 (fun h2 L2 F2 p6 p7 p8 p9 p10 p11 p12 => ?_) _⟩⟩
      rw [← nI_succ]
      exact ih (i + 1) (by omega) h2 L2 (by rw [c4]; exact F2) _ _ _ _ _ _ _
  have HH : dH (DD k) * dH (DD k) ≤ 144 := Nat.mul_le_mul H12 H12
  have HS : dH (DD k) * sNn W (dH (DD k)) ≤ 12 * sNn W (dH (DD k)) := Nat.mul_le_mul_right _ H12
  have cp : 1 ≤ n → ∀ tot, tot ≤ dH (DD k) * dH (DD k) → ∀ i, i < tot → 0 ≤ 3573 * (oM W (dH (DD k)) i : Int) ∧ 0 ≤ 3573 * (W (i % dH (DD k)) : Int) ∧ 3573 * (oM W (dH (DD k)) i : Int) + 3573 * (W (i % dH (DD k)) : Int) ≤ 42876 * (sp_t (DD k) (rul (DD k))).toInt ∧ 3573 * (oM W (dH (DD k)) (i + 1) : Int) = 3573 * (oM W (dH (DD k)) i : Int) + 3573 * (W (i % dH (DD k)) : Int) ∧ (n = 0 → 3573 * (W (i % dH (DD k)) : Int) = 3573 * (sp_t (DD k) (rul (DD k))).toInt) ∧ (1 ≤ n → 3573 * (W (i % dH (DD k)) : Int) = 3573 * (W (i % dH (DD k)) : Int)) := fun n1 tot ht i hi => by
    have e := oM_succ (W := W) (H := dH (DD k)) (i := i) (by omega)
    have l := oM_le (W := W) (H := dH (DD k)) (i := i + 1) (by omega) (by omega)
    refine ⟨by omega, by omega, by rw [T0]; omega, by omega, fun q => by omega, fun _ => rfl⟩
  have o0 : 3573 * (oM W (dH (DD k)) 0 : Int) = 0 := by
    have : oM W (dH (DD k)) 0 = 0 := by unfold oM; rw [Nat.zero_div, Nat.zero_mod, Nat.zero_mul]; rfl
    rw [this]; rfl
  refine ⟨fun q0 => ⟨fun q1 => ⟨s00, s00, ?_⟩, fun q1 => ⟨s00, ?_⟩⟩, fun q0 => ?_⟩
  · have n1 : 1 ≤ n := by rcases Nat.eq_zero_or_pos n with e | e; rw [e] at q0; exact absurd nI_0 q0; exact e
    rw [e26, pk_mul]
    exact k44 (dH (DD k) * dH (DD k)) (fun i => 3573 * (oM W (dH (DD k)) i : Int)) (fun i => 3573 * (W (i % dH (DD k)) : Int)) HH (cp n1 _ (Nat.le_refl _)) (dH (DD k) * dH (DD k)) 0 (by omega) u2 Lu (f0 _ o0) _ _ _ _ _ _ _
  · have n1 : 1 ≤ n := by rcases Nat.eq_zero_or_pos n with e | e; rw [e] at q0; exact absurd nI_0 q0; exact e
    have hh1 : dH (DD k) ≤ dH (DD k) * dH (DD k) := Nat.le_mul_of_pos_left _ (by omega)
    rw [e26]
    exact k44 (dH (DD k)) (fun i => 3573 * (oM W (dH (DD k)) i : Int)) (fun i => 3573 * (W (i % dH (DD k)) : Int)) (by omega) (cp n1 _ hh1) (dH (DD k)) 0 (by omega) u2 Lu (f0 _ o0) _ _ _ _ _ _ _
  · have n0 : n = 0 := (nI_eq (by omega) (by decide)).mp (q0.trans nI_0.symm)
    refine k44 1 (fun i => 3573 * (sp_t (DD k) (rul (DD k))).toInt * (i : Int)) (fun _ => 3573 * (sp_t (DD k) (rul (DD k))).toInt) (by decide) (fun i hi => ?_) 1 0 (by decide) u2 Lu (f0 _ (by show 3573 * (sp_t (DD k) (rul (DD k))).toInt * ((0 : Nat) : Int) = 0; rw [Int.natCast_zero, Int.mul_zero])) _ _ _ _ _ _ _
    have ei : i = 0 := by omega
    subst ei
    refine ⟨by show 0 ≤ 3573 * (sp_t (DD k) (rul (DD k))).toInt * ((0 : Nat) : Int); rw [Int.natCast_zero, Int.mul_zero]; exact Int.le_refl _, by show 0 ≤ 3573 * (sp_t (DD k) (rul (DD k))).toInt; omega, ?_, ?_, fun _ => rfl, fun q => by omega⟩
    · show 3573 * (sp_t (DD k) (rul (DD k))).toInt * ((0 : Nat) : Int) + 3573 * (sp_t (DD k) (rul (DD k))).toInt ≤ _
      rw [Int.natCast_zero, Int.mul_zero]; omega
    · show 3573 * (sp_t (DD k) (rul (DD k))).toInt * ((1 : Nat) : Int) = 3573 * (sp_t (DD k) (rul (DD k))).toInt * ((0 : Nat) : Int) + 3573 * (sp_t (DD k) (rul (DD k))).toInt
      rw [Int.natCast_zero, Int.mul_zero, Int.natCast_one, Int.mul_one]; omega
end
end
end

section
section
variable {g : ax_G} {Ret : Option Value → ax_H → Prop} {h : ax_H} {z : Nat → Nat} {DD : Nat → rD} {N : Nat → Nat → Nat} {C : Nat → Nat → Nat → Nat → Int32} {S : sT} {Im : Nat → Option sT} {tp : Nat → Nat} {B : Nat}
theorem t10_hope {x1 x2 x3 x4 : Int32} (a : tc h z DD N C) (hq : ∀ (v : Int64) h', ax_same md_F h h' → Ret (some (.long v)) h') : mX10_hope g [.ref 77, .int x1, .int x2, .int x3, .int x4] h Ret := by
  obtain ⟨a1, T1, hs1⟩ := q_code (v := 0) a.2.1 a.2.2.2.1
  refine eX10_hope ⟨a.2.1.1, ?_⟩
  intro h1
  refine c_min ⟨_, rfl, fun _ => hq _ _ hs1, fun q2 => ⟨a1.1, q_handOne a1 T1 a.2.2.2.2 (fun h' hs _ => ⟨_, rfl, fun q => absurd rfl q, fun _ => hq _ _ (sm_tr hs1 hs)⟩) (fun k p hk ex ok hp ep h' hs hm => ⟨_, rfl, fun _ => ⟨hm.1.1.1.1, ?_⟩, fun q => absurd q (by decide)⟩)⟩⟩
  subst ep
  obtain ⟨n, _, hn, rfl⟩ := i_rng (a := 0) (b := 2) (by decide) (by decide) (of_decide_eq_true (b2i_n0.mp q2)).1 (of_decide_eq_true (b2i_n0.mp q2)).2
  refine c_expect ok (lvm_hm (sm_tr hs1 hs) hm) hn hp (fun h2 L2 => ⟨rfl, ?_⟩)
  obtain ⟨pu, mc, -⟩ := L2.2
  exact ⟨fun _ => ⟨mc.1.1.1, hq _ _ L2.1⟩, fun _ => ⟨mc.1.1.1, hq _ _ L2.1⟩⟩
theorem t10_doom {x1 x2 x3 x4 : Int32} (a : tc h z DD N C) (hq : ∀ (v : Int64) h', ax_same md_F h h' → Ret (some (.long v)) h') : mX10_doom g [.ref 77, .int x1, .int x2, .int x3, .int x4] h Ret := by
  obtain ⟨a1, T1, hs1⟩ := q_code (v := 0) a.2.1 a.2.2.2.1
  refine eX10_doom ⟨a.2.1.1, ?_⟩
  intro h1
  refine c_min ⟨_, rfl, fun _ => hq _ _ hs1, fun q2 => ⟨a1.1, q_handOne a1 T1 a.2.2.2.2 (fun h' hs _ => ⟨_, rfl, fun q => absurd rfl q, fun _ => hq _ _ (sm_tr hs1 hs)⟩) (fun k p hk ex ok hp ep h' hs hm => ⟨_, rfl, fun _ => ⟨hm.1.1.1.1, ?_⟩, fun q => absurd q (by decide)⟩)⟩⟩
  subst ep
  obtain ⟨n, _, hn, rfl⟩ := i_rng (a := 0) (b := 2) (by decide) (by decide) (of_decide_eq_true (b2i_n0.mp q2)).1 (of_decide_eq_true (b2i_n0.mp q2)).2
  refine c_expect ok (lvm_hm (sm_tr hs1 hs) hm) hn hp (fun h2 L2 => ⟨rfl, ?_⟩)
  obtain ⟨pu, mc, -⟩ := L2.2
  exact ⟨fun _ => ⟨mc.1.1.1, hq _ _ L2.1⟩, fun _ => ⟨mc.1.1.1, hq _ _ L2.1⟩⟩
theorem n_hope (a : IV h S Im tp) (b : 103 ≤ h.1 ∧ h.1 ≤ B) (x1 x2 x3 x4 : Int32) : prM (mX9_hope g) (mX10_hope g) [.ref 0, .int x1, .int x2, .int x3, .int x4] [.ref 77, .int x1, .int x2, .int x3, .int x4] h (inv B) := pr_m a b (fun Ret k => t9_hope (iv_tc a) k) (fun h1 Ret a1 k => t10_hope (iv_tc a1) k)
theorem n_doom (a : IV h S Im tp) (b : 103 ≤ h.1 ∧ h.1 ≤ B) (x1 x2 x3 x4 : Int32) : prM (mX9_doom g) (mX10_doom g) [.ref 0, .int x1, .int x2, .int x3, .int x4] [.ref 77, .int x1, .int x2, .int x3, .int x4] h (inv B) := pr_m a b (fun Ret k => t9_doom (iv_tc a) k) (fun h1 Ret a1 k => t10_doom (iv_tc a1) k)
end
end

