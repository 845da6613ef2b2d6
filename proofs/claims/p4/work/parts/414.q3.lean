section
variable {g : ax_G} {Ret : Option Value → ax_H → Prop} {h : ax_H} {z : Nat → Nat} {DD : Nat → rD} {N : Nat → Nat → Nat} {C : Nat → Nat → Nat → Nat → Int32}
theorem mo_wk {h : ax_H} {m : Nat} (a : mo_st h m) : ax_r h m 7 = some (m + 7) ∧ ax_s h (m + 7) = (11, 120) := a.2 6 _ rfl
theorem mo_er {h : ax_H} {m : Nat} (a : mo_st h m) : ax_r h m 8 = some (m + 8) ∧ ax_s h (m + 8) = (11, 152) := a.2 7 _ rfl
theorem mo_tb {h : ax_H} {m : Nat} (a : mo_st h m) : ax_r h m 9 = some (m + 9) ∧ ax_s h (m + 9) = (11, 136) := a.2 8 _ rfl
theorem mo_si {h : ax_H} {m : Nat} (a : mo_st h m) : ax_r h m 10 = some (m + 10) ∧ ax_s h (m + 10) = (11, 152) := a.2 9 _ rfl
/-- the k-th of a sort, in the reference's row -/
theorem tm_ln {s k : Nat} (T : tm_at h 77 0 z DD N C) (h1 : 1 ≤ s) (h5 : s < 5) (hk : k < z s) : ax_i h (83 + s) (lW s * k) = nI (N s k) ∧ ∀ i j, i < N s k → j < lw s → ax_i h (83 + s) (lW s * k + 1 + lw s * i + j) = C s k i j := by
  have := T.2.2 s k h1 h5 hk
  simp only [Nat.mul_zero, Nat.zero_add] at this
  exact this
theorem mi_is {s : Nat} {x : Int32} (a : mo_st h 77) (T : tm_at h 77 0 z DD N C) (K : tk z DD N C) (hs : s < 5) (hq : Ret (some (.int (b2i (sp_in x (z s))))) h) : mX10_is g [.ref 77, .int (nI s), .int x] h Ret :=
  c_mis a hs (K.1 s hs) (by have := T.1 s hs; rwa [Nat.mul_zero, Nat.zero_add] at this) hq
theorem mf_keep {k : Nat} {v : Int32} (a : mo_st h 77) (T : tm_at h 77 0 z DD N C) : mo_st (ax_pi h 77 k v) 77 ∧ tm_at (ax_pi h 77 k v) 77 0 z DD N C ∧ ax_same md_F h (ax_pi h 77 k v) := by
  have hs : ax_same md_F h (ax_pi h 77 k v) := sm_pi (Or.inl rfl)
  exact ⟨mo_st_same hs a, tm_at_same hs (fun j hj q => by unfold md_F at q; omega) T, hs⟩
theorem ai_eq {h : ax_H} {a k : Nat} {v : Int32} : ax_i (ax_pi h a k v) a k = v := by rw [ai_pi, if_pos ⟨rfl, rfl⟩]
theorem c_mhasWeek {x : Int32} (a : mo_st h 77) (T : tm_at h 77 0 z DD N C) (K : tk z DD N C) (hq : Ret (some (.int (b2i (sp_in x (z 1))))) (ax_pi h 77 36 x)) : mX10_hasWeek g [.ref 77, .int x] h Ret := by
  obtain ⟨a1, T1, -⟩ := mf_keep (k := 36) (v := x) a T
  exact eX10_hasWeek ⟨a.1, a1.1, mi_is (s := 1) a1 T1 K (by decide) ⟨_, rfl, b01, hq⟩⟩
theorem c_mhourOf {w i : Nat} (a : mo_st h 77) (T : tm_at h 77 0 z DD N C) (K : tk z DD N C) (hw : w < z 1) (e36 : ax_i h 77 36 = nI w) (hi : i < N 1 w) (hq : Ret (some (.int (C 1 w i 0))) h) : mX10_hourOf g [.ref 77, .int (nI i)] h Ret := by
  obtain ⟨e1, e2⟩ := mo_wk a
  have z2 := K.1 1 (by decide)
  have hn := (K.2.2 1 w (by decide) (by decide) hw).1
  have hn : N 1 w ≤ 14 := hn
  have ei : (15 : Int32) * nI w + 1 + nI i = nI (15 * w + 1 + i) := by rw [show (15 : Int32) = nI 15 from rfl, show (1 : Int32) = nI 1 from rfl, pk_mul, nI_add, nI_add]
  refine eX10_hourOf ⟨a.1, _, e1, a.1, by rw [e2], by rw [e36, ei, e2]; exact vp_in_nI (by omega) (by decide), ?_⟩
  rw [e36, ei, nI_clamp (by omega)]
  have := (tm_ln T (by decide) (by decide) hw).2 i 0 hi (by decide)
  rw [show lW 1 * w + 1 + lw 1 * i + 0 = 15 * w + 1 + i by show 15 * w + 1 + 1 * i + 0 = _; omega] at this
  show Ret (some (.int (ax_i h 84 (15 * w + 1 + i)))) h
  rw [this]
  exact hq
/-! DAY -/
def s_day (z : Nat → Nat) (N : Nat → Nat → Nat) (C : Nat → Nat → Nat → Nat → Int32) (x1 x2 : Int32) : Int32 := if sp_in x1 (z 1) then (if x2 = -1 then nI (N 1 x1.toNatClampNeg) else if sp_in x2 (N 1 x1.toNatClampNeg) then C 1 x1.toNatClampNeg x2.toNatClampNeg 0 else -2) else -2
theorem q9_day {x1 x2 : Int32} (a : tc h z DD N C) (hq : Ret (some (.int (s_day z N C x1 x2))) h) : mX9_day g [.ref 0, .int x1, .int x2] h Ret := by
  have z2 := a.2.2.2.2.1 1 (by decide)
  unfold s_day at hq
  refine eX9_day ⟨a.1.1, _, a.1.2.1.1, a.2.2.1.1.1, c_linesAt (s0 := 1) a.2.2.1 (by decide) (by decide) (fun q => Or.inr ⟨rfl, ?_⟩) (fun k hk ex => Or.inl ⟨_, rfl, ?_⟩)⟩
  · rw [q] at hq; exact hq
  · subst ex
    have hL := a.2.2.1.2.2.2 1 k (by decide) (by decide) hk
    rw [sp_in_nI (by omega) hk, if_pos rfl, nI_clamp (by omega)] at hq
    refine ⟨fun q1 => ⟨hL.1.1, c_lhas hL ⟨_, rfl, fun q2 => ?_, fun q2 => ⟨hL.1.1, c_lcell (by decide) (by decide) hL ⟨_, rfl, ?_⟩⟩⟩⟩, fun q1 => ⟨hL.1.1, ?_⟩⟩
    · rw [if_neg q1, b2i_0.mp q2] at hq; exact hq
    · rw [if_neg q1, b2i_n0.mp q2, if_pos rfl] at hq
      unfold sp_lc
      rw [b2i_n0.mp q2, show sp_in 0 (lw 1) = true from by decide]
      exact hq
    · rw [if_pos q1] at hq
      rw [hL.2.2.1]; exact hq
theorem q10_day {x1 x2 : Int32} (a : tc h z DD N C) (hq : ∀ h', ax_same md_F h h' → Ret (some (.int (s_day z N C x1 x2))) h') : mX10_day g [.ref 77, .int x1, .int x2] h Ret := by
  have K := a.2.2.2.2
  have z2 := K.1 1 (by decide)
  obtain ⟨a1, T1, hs1⟩ := q_code (v := 0) a.2.1 a.2.2.2.1
  refine eX10_day ⟨a.2.1.1, a1.1, c_mhasWeek a1 T1 K ⟨_, rfl, fun q => ?_, fun q => ?_⟩⟩
  · obtain ⟨a2, T2, hs2⟩ := mf_keep (k := 36) (v := x1) a1 T1
    obtain ⟨w, hw, rfl⟩ := sp_in_ix (by omega) (b2i_n0.mp q)
    have hv := hq _ (sm_tr hs1 hs2)
    unfold s_day at hv
    rw [b2i_n0.mp q, if_pos rfl, nI_clamp (by omega)] at hv
    obtain ⟨e1, e2⟩ := mo_wk a2
    have ei : (15 : Int32) * nI w = nI (15 * w) := by rw [show (15 : Int32) = nI 15 from rfl, pk_mul]
    have en : ∀ hh : ax_H, tm_at hh 77 0 z DD N C → ax_i hh (77 + 7) (15 * w) = nI (N 1 w) := fun hh T => (tm_ln T (by decide) (by decide) hw).1
    have hn : N 1 w ≤ 14 := (K.2.2 1 w (by decide) (by decide) hw).1
    refine ⟨a2.1, _, e1, by rw [e2], by rw [ei, e2]; exact vp_in_nI (by omega) (by decide), fun q1 => ?_, fun q1 => ?_⟩
    · rw [ei, nI_clamp (by omega), en _ T2]
      refine c_minN (by omega) ⟨_, rfl, fun q2 => ?_, fun q2 => ⟨a2.1, ?_⟩⟩
      · rw [if_neg q1, b2i_0.mp q2] at hv; exact hv
      · rw [if_neg q1, b2i_n0.mp q2, if_pos rfl] at hv
        obtain ⟨i, hi, rfl⟩ := sp_in_ix (by omega) (b2i_n0.mp q2)
        rw [nI_clamp (by omega)] at hv
        exact c_mhourOf a2 T2 K hw ai_eq hi ⟨_, rfl, hv⟩
    · rw [ei, nI_clamp (by omega), en _ T2]
      rw [if_pos q1] at hv; exact hv
  · obtain ⟨a2, T2, hs2⟩ := mf_keep (k := 36) (v := x1) a1 T1
    have hv := hq _ (sm_tr hs1 hs2)
    unfold s_day at hv
    rw [b2i_0.mp q] at hv
    exact hv
/-! ERRAND, TRAIN, SIGHT on the class's side -/
theorem q9_errand {x1 x2 x3 : Int32} (a : tc h z DD N C) (hq : Ret (some (.int (sp_ll z N C 2 x1 x2 x3 (-2)))) h) : mX9_errand g [.ref 0, .int x1, .int x2, .int x3] h Ret :=
  eX9_errand ⟨a.1.1, _, a.1.2.1.1, a.2.2.1.1.1, c_lineCell (s0 := 2) a.2.2.1 (by decide) (by decide) ⟨_, rfl, hq⟩⟩
theorem q9_train {x1 x2 x3 : Int32} (a : tc h z DD N C) (hq : Ret (some (.int (sp_ll z N C 3 x1 x2 x3 (-2)))) h) : mX9_train g [.ref 0, .int x1, .int x2, .int x3] h Ret :=
  eX9_train ⟨a.1.1, _, a.1.2.1.1, a.2.2.1.1.1, c_lineCell (s0 := 3) a.2.2.1 (by decide) (by decide) ⟨_, rfl, hq⟩⟩
theorem q9_sight {x1 x2 x3 : Int32} (a : tc h z DD N C) (hq : Ret (some (.int (sp_ll z N C 4 x1 x2 x3 (-1000000)))) h) : mX9_sight g [.ref 0, .int x1, .int x2, .int x3] h Ret :=
  eX9_sight ⟨a.1.1, _, a.1.2.1.1, a.2.2.1.1.1, c_lineCell (s0 := 4) a.2.2.1 (by decide) (by decide) ⟨_, rfl, hq⟩⟩
/-! and on the reference's -/
theorem c_merrandOf {r i j : Nat} (a : mo_st h 77) (T : tm_at h 77 0 z DD N C) (K : tk z DD N C) (hr : r < z 2) (e0 : ax_i h 77 41 = nI r) (hi : i < N 2 r) (hj : j < 3) (hq : Ret (some (.int (C 2 r i j))) h) : mX10_errandOf g [.ref 77, .int (nI i), .int (nI j)] h Ret := by
  obtain ⟨e1, e2⟩ := mo_er a
  have z2 := K.1 2 (by decide)
  have hn : N 2 r ≤ 6 := (K.2.2 2 r (by decide) (by decide) hr).1
  have ei : (19 : Int32) * ax_i h 77 41 + 1 + 3 * nI i + nI j = nI (19 * r + 1 + 3 * i + j) := by rw [e0, show (19 : Int32) = nI 19 from rfl, show (1 : Int32) = nI 1 from rfl, show (3 : Int32) = nI 3 from rfl, pk_mul, nI_add, pk_mul, nI_add, nI_add]
  refine eX10_errandOf ⟨a.1, _, e1, a.1, ?_⟩
  intro z3
  have ez : z3 = nI (19 * r + 1 + 3 * i + j) := ei
  refine ⟨by rw [e2], by rw [ez, e2]; exact vp_in_nI (by omega) (by decide), ?_⟩
  rw [ez, nI_clamp (by omega)]
  have := (tm_ln T (by decide) (by decide) hr).2 i j hi hj
  show Ret (some (.int (ax_i h 85 (19 * r + 1 + 3 * i + j)))) h
  rw [show ax_i h 85 (19 * r + 1 + 3 * i + j) = C 2 r i j from this]
  exact hq
theorem c_mtrainOf {r i j : Nat} (a : mo_st h 77) (T : tm_at h 77 0 z DD N C) (K : tk z DD N C) (hr : r < z 3) (e0 : ax_i h 77 47 = nI r) (hi : i < N 3 r) (hj : j < 2) (hq : Ret (some (.int (C 3 r i j))) h) : mX10_trainOf g [.ref 77, .int (nI i), .int (nI j)] h Ret := by
  obtain ⟨e1, e2⟩ := mo_tb a
  have z2 := K.1 3 (by decide)
  have hn : N 3 r ≤ 8 := (K.2.2 3 r (by decide) (by decide) hr).1
  have ei : (17 : Int32) * ax_i h 77 47 + 1 + 2 * nI i + nI j = nI (17 * r + 1 + 2 * i + j) := by rw [e0, show (17 : Int32) = nI 17 from rfl, show (1 : Int32) = nI 1 from rfl, show (2 : Int32) = nI 2 from rfl, pk_mul, nI_add, pk_mul, nI_add, nI_add]
  refine eX10_trainOf ⟨a.1, _, e1, a.1, ?_⟩
  intro z3
  have ez : z3 = nI (17 * r + 1 + 2 * i + j) := ei
  refine ⟨by rw [e2], by rw [ez, e2]; exact vp_in_nI (by omega) (by decide), ?_⟩
  rw [ez, nI_clamp (by omega)]
  have := (tm_ln T (by decide) (by decide) hr).2 i j hi hj
  show Ret (some (.int (ax_i h 86 (17 * r + 1 + 2 * i + j)))) h
  rw [show ax_i h 86 (17 * r + 1 + 2 * i + j) = C 3 r i j from this]
  exact hq
theorem c_msightOf {r i j : Nat} (a : mo_st h 77) (T : tm_at h 77 0 z DD N C) (K : tk z DD N C) (hr : r < z 4) (e0 : ax_i h 77 49 = nI r) (hi : i < N 4 r) (hj : j < 3) (hq : Ret (some (.int (C 4 r i j))) h) : mX10_sightOf g [.ref 77, .int (nI i), .int (nI j)] h Ret := by
  obtain ⟨e1, e2⟩ := mo_si a
  have z2 := K.1 4 (by decide)
  have hn : N 4 r ≤ 6 := (K.2.2 4 r (by decide) (by decide) hr).1
  have ei : (19 : Int32) * ax_i h 77 49 + 1 + 3 * nI i + nI j = nI (19 * r + 1 + 3 * i + j) := by rw [e0, show (19 : Int32) = nI 19 from rfl, show (1 : Int32) = nI 1 from rfl, show (3 : Int32) = nI 3 from rfl, pk_mul, nI_add, pk_mul, nI_add, nI_add]
  refine eX10_sightOf ⟨a.1, _, e1, a.1, ?_⟩
  intro z3
  have ez : z3 = nI (19 * r + 1 + 3 * i + j) := ei
  refine ⟨by rw [e2], by rw [ez, e2]; exact vp_in_nI (by omega) (by decide), ?_⟩
  rw [ez, nI_clamp (by omega)]
  have := (tm_ln T (by decide) (by decide) hr).2 i j hi hj
  show Ret (some (.int (ax_i h 87 (19 * r + 1 + 3 * i + j)))) h
  rw [show ax_i h 87 (19 * r + 1 + 3 * i + j) = C 4 r i j from this]
  exact hq
theorem c_mhasTable {x : Int32} (a : mo_st h 77) (T : tm_at h 77 0 z DD N C) (K : tk z DD N C) (hq : Ret (some (.int (b2i (sp_in x (z 3))))) (ax_pi h 77 47 x)) : mX10_hasTable g [.ref 77, .int x] h Ret := by
  obtain ⟨a1, T1, -⟩ := mf_keep (k := 47) (v := x) a T
  exact eX10_hasTable ⟨a.1, a1.1, mi_is (s := 3) a1 T1 K (by decide) ⟨_, rfl, b01, hq⟩⟩
theorem c_mhasSights {x : Int32} (a : mo_st h 77) (T : tm_at h 77 0 z DD N C) (K : tk z DD N C) (hq : Ret (some (.int (b2i (sp_in x (z 4))))) (ax_pi h 77 49 x)) : mX10_hasSights g [.ref 77, .int x] h Ret := by
  obtain ⟨a1, T1, -⟩ := mf_keep (k := 49) (v := x) a T
  exact eX10_hasSights ⟨a.1, a1.1, mi_is (s := 4) a1 T1 K (by decide) ⟨_, rfl, b01, hq⟩⟩
theorem c_mtrains {r : Nat} (a : mo_st h 77) (T : tm_at h 77 0 z DD N C) (K : tk z DD N C) (hr : r < z 3) (e0 : ax_i h 77 47 = nI r) (hq : Ret (some (.int (nI (N 3 r)))) h) : mX10_trains g [.ref 77] h Ret := by
  obtain ⟨e1, e2⟩ := mo_tb a
  have z2 := K.1 3 (by decide)
  have ei : (17 : Int32) * ax_i h 77 47 = nI (17 * r) := by rw [e0, show (17 : Int32) = nI 17 from rfl, pk_mul]
  refine eX10_trains ⟨a.1, _, e1, a.1, by rw [e2], by rw [ei, e2]; exact vp_in_nI (by omega) (by decide), ?_⟩
  rw [ei, nI_clamp (by omega)]
  have := (tm_ln T (by decide) (by decide) hr).1
  rw [show ax_i h (77 + 9) (17 * r) = nI (N 3 r) from this]
  exact hq
/-- the reference's way to a row of errands: the row, how many -/
theorem c_mhasErrands {x : Int32} (a : mo_st h 77) (T : tm_at h 77 0 z DD N C) (K : tk z DD N C) (hq : ∀ h', mr (fun j => j = 41 ∨ j = 42 ∨ j = 45) (fun _ => False) 77 h h' → ax_i h' 77 41 = x → ax_i h' 77 45 = 0 → ax_i h' 77 42 = (if sp_in x (z 2) then nI (N 2 x.toNatClampNeg) else 0) → Ret (some (.int (b2i (sp_in x (z 2))))) h') : mX10_hasErrands g [.ref 77, .int x] h Ret := by
  have z2 := K.1 2 (by decide)
  refine eX10_hasErrands ⟨Or.inl rfl, a.1, ?_⟩
  intro h1
  obtain ⟨a1, T1, -⟩ := mf_keep (k := 45) (v := 0) a T
  refine ⟨a1.1, ?_⟩
  intro h2
  obtain ⟨a2, T2, -⟩ := mf_keep (k := 41) (v := x) a1 T1
  have hs2 : mr (fun j => j = 41 ∨ j = 42 ∨ j = 45) (fun _ => False) 77 h h2 := mr_tr (mr_f (Or.inr (Or.inr rfl))) (mr_f (Or.inl rfl))
  have f41 : ax_i h2 77 41 = x := ai_eq
  have f45 : ax_i h2 77 45 = 0 := by
    show ax_i (ax_pi h1 77 41 x) 77 45 = _
    rw [ai_pi, if_neg (by omega)]; exact ai_eq
  refine ⟨a2.1, mi_is (s := 2) a2 T2 K (by decide) ⟨_, rfl, fun q => ⟨a2.1, ?_⟩, fun q => ?_⟩⟩
  · intro h6
    obtain ⟨a6, T6, -⟩ := mf_keep (k := 42) (v := 0) a2 T2
    refine ⟨a6.1, mi_is (s := 2) a6 T6 K (by decide) ⟨_, rfl, b01, hq h6 (mr_tr hs2 (mr_f (Or.inr (Or.inl rfl)))) ?_ ?_ ?_⟩⟩
    · show ax_i (ax_pi h2 77 42 0) 77 41 = _
      rw [ai_pi, if_neg (by omega)]; exact f41
    · show ax_i (ax_pi h2 77 42 0) 77 45 = _
      rw [ai_pi, if_neg (by omega)]; exact f45
    · rw [b2i_0.mp q]; exact ai_eq
  · obtain ⟨r, hr, er⟩ := sp_in_ix (by omega) (b2i_n0.mp q)
    obtain ⟨e1, e2⟩ := mo_er a2
    have ei : (19 : Int32) * x = nI (19 * r) := by rw [er, show (19 : Int32) = nI 19 from rfl, pk_mul]
    refine ⟨a2.1, _, e1, by rw [e2], by rw [ei, e2]; exact vp_in_nI (by omega) (by decide), a2.1, ?_⟩
    rw [ei, nI_clamp (by omega), show ax_i h2 (77 + 8) (19 * r) = nI (N 2 r) from (tm_ln T2 (by decide) (by decide) hr).1]
    intro h11
    obtain ⟨a6, T6, -⟩ := mf_keep (k := 42) (v := nI (N 2 r)) a2 T2
    refine ⟨a6.1, mi_is (s := 2) a6 T6 K (by decide) ⟨_, rfl, b01, hq h11 (mr_tr hs2 (mr_f (Or.inr (Or.inl rfl)))) ?_ ?_ ?_⟩⟩
    · show ax_i (ax_pi h2 77 42 _) 77 41 = _
      rw [ai_pi, if_neg (by omega)]; exact f41
    · show ax_i (ax_pi h2 77 42 _) 77 45 = _
      rw [ai_pi, if_neg (by omega)]; exact f45
    · rw [b2i_n0.mp q, if_pos rfl, er, nI_clamp (by omega)]; exact ai_eq
end
