section
section
/-! the law's start: the world below the new cells -/
theorem ax_oN : ∀ x : Int32, ∃ n : Nat, Int32.ofNat n = x := fun x => match x with
  | ⟨⟨b⟩⟩ => ⟨b.toNat, by show (⟨⟨BitVec.ofNat 32 b.toNat⟩⟩ : Int32) = ⟨⟨b⟩⟩; rw [BitVec.ofNat_toNat, BitVec.setWidth_eq]⟩
def st_fl : List Cond := flatC (Jvm.Cond.and given_1 narrow_1)
def sq (j : Nat) : String × String × List Int32 := ax_sa.getD j ("", "", [])
def ax_tm (i : Nat) : Term := .string "GluedHour$Reader" (ax_ss.getD i (0, "")).1
theorem tw_1 {i : Nat} {w : Cond} (h : (tables_1_1)[i]? = some w) : w ∈ lw_tbl := List.mem_append_right _ (ta_1 h)
theorem tw_2 {i : Nat} {w : Cond} (h : (tables_1_2)[i]? = some w) : w ∈ lw_tbl := List.mem_append_right _ (ta_2 h)
theorem tw_3 {i : Nat} {w : Cond} (h : (tables_1_3)[i]? = some w) : w ∈ lw_tbl := List.mem_append_right _ (ta_3 h)
theorem tw_4 {i : Nat} {w : Cond} (h : (tables_1_4)[i]? = some w) : w ∈ lw_tbl := List.mem_append_right _ (ta_4 h)
theorem tw_5 {i : Nat} {w : Cond} (h : (tables_1_5)[i]? = some w) : w ∈ lw_tbl := List.mem_append_right _ (ta_5 h)
theorem tw_6 {i : Nat} {w : Cond} (h : (tables_1_6)[i]? = some w) : w ∈ lw_tbl := List.mem_append_right _ (ta_6 h)
theorem tw_7 {i : Nat} {w : Cond} (h : (tables_1_7)[i]? = some w) : w ∈ lw_tbl := List.mem_append_right _ (ta_7 h)
def st_bj : List Nat := [5, 13, 21, 40, 54, 90]
theorem st_saI : ∀ j, j < 6 → st_fl[st_bj.getD j 0]? = some (Cond.arrayOf (.static (sq j).1 (sq j).2.1 "[I") .int) ∧ st_fl[st_bj.getD j 0 + 1]? = some (Cond.eq (.length (.static (sq j).1 (sq j).2.1 "[I")) (.int (Int32.ofNat (sq j).2.2.length))) ∧ ∀ k, k < (sq j).2.2.length → st_fl[st_bj.getD j 0 + 2 + k]? = some (Cond.eq (.elem (.static (sq j).1 (sq j).2.1 "[I") (.int (Int32.ofNat k))) (.int ((sq j).2.2.getD k 0))) := by decide +kernel
theorem st_sa : ∀ j, j < 6 → (Cond.arrayOf (.static (sq j).1 (sq j).2.1 "[I") .int) ∈ st_fl ∧ (Cond.eq (.length (.static (sq j).1 (sq j).2.1 "[I")) (.int (Int32.ofNat (sq j).2.2.length))) ∈ st_fl ∧ ∀ k, k < (sq j).2.2.length → (Cond.eq (.elem (.static (sq j).1 (sq j).2.1 "[I") (.int (Int32.ofNat k))) (.int ((sq j).2.2.getD k 0))) ∈ st_fl := fun j hj => ⟨List.mem_of_getElem? (st_saI j hj).1, List.mem_of_getElem? (st_saI j hj).2.1, fun k hk => List.mem_of_getElem? ((st_saI j hj).2.2 k hk)⟩
theorem st_len : ∀ j, j < 6 → (sq j).2.2.length < 2 ^ 31 := by decide
theorem st_ly : ∀ j, j < 6 → (Cond.laysStatic (sq j).1 (sq j).2.1 "[I") ∈ lw_tbl
  | 0, _ => tw_1 (i := 91) rfl
  | 1, _ => tw_1 (i := 93) rfl
  | 2, _ => tw_2 (i := 170) rfl
  | 3, _ => tw_3 (i := 10) rfl
  | 4, _ => tw_3 (i := 16) rfl
  | 5, _ => tw_3 (i := 18) rfl
  | j + 6, h => absurd h (by omega)
theorem st_in : ∀ j, j < 6 → (Cond.initialized (sq j).1) ∈ lw_tbl
  | 0, _ => tw_1 (i := 1) rfl
  | 1, _ => tw_1 (i := 1) rfl
  | 2, _ => tw_1 (i := 5) rfl
  | 3, _ => tw_1 (i := 5) rfl
  | 4, _ => tw_1 (i := 5) rfl
  | 5, _ => tw_1 (i := 5) rfl
  | j + 6, h => absurd h (by omega)
def st_bs : List Nat := [317, 337, 357, 169, 178, 187, 197, 210, 222, 234, 249, 266, 283, 299]
theorem st_strI : ∀ i, i < 14 → st_fl[st_bs.getD i 0]? = some (Cond.exactly (ax_tm i) "java/lang/String") ∧ st_fl[st_bs.getD i 0 + 1]? = some (Cond.eq (.field (ax_tm i) "java/lang/String" "coder" "B") (.int 0)) ∧ st_fl[st_bs.getD i 0 + 2]? = some (Cond.arrayOf (.field (ax_tm i) "java/lang/String" "value" "[B") .byte) ∧ st_fl[st_bs.getD i 0 + 3]? = some (Cond.eq (.length (.field (ax_tm i) "java/lang/String" "value" "[B")) (.int (Int32.ofNat (ax_sl.getD i 0)))) ∧ ∀ j, j < ax_sl.getD i 0 → st_fl[st_bs.getD i 0 + 4 + j]? = some (Cond.eq (.elem (.field (ax_tm i) "java/lang/String" "value" "[B") (.int (Int32.ofNat j))) (.int ((ax_sb.getD i []).getD j 0))) := by decide +kernel
theorem st_str : ∀ i, i < 14 → (Cond.exactly (ax_tm i) "java/lang/String") ∈ st_fl ∧ (Cond.eq (.field (ax_tm i) "java/lang/String" "coder" "B") (.int 0)) ∈ st_fl ∧ (Cond.arrayOf (.field (ax_tm i) "java/lang/String" "value" "[B") .byte) ∈ st_fl ∧ (Cond.eq (.length (.field (ax_tm i) "java/lang/String" "value" "[B")) (.int (Int32.ofNat (ax_sl.getD i 0)))) ∈ st_fl ∧ ∀ j, j < ax_sl.getD i 0 → (Cond.eq (.elem (.field (ax_tm i) "java/lang/String" "value" "[B") (.int (Int32.ofNat j))) (.int ((ax_sb.getD i []).getD j 0))) ∈ st_fl := fun i hi => ⟨List.mem_of_getElem? (st_strI i hi).1, List.mem_of_getElem? (st_strI i hi).2.1, List.mem_of_getElem? (st_strI i hi).2.2.1, List.mem_of_getElem? (st_strI i hi).2.2.2.1, fun j hj => List.mem_of_getElem? ((st_strI i hi).2.2.2.2 j hj)⟩
theorem st_ni1 : ∀ q ∈ st_ni, st_fl[q.2.2]? = some (Cond.not (Cond.eq (ax_tm q.1) (ax_tm q.2.1))) := by decide +kernel
theorem st_ni2 : ∀ i, i < 14 → ∀ j, j < 14 → i ≠ j → ∃ q ∈ st_ni, (q.1 = i ∧ q.2.1 = j) ∨ (q.1 = j ∧ q.2.1 = i) := by decide +kernel
theorem st_hne (i : Nat) (hi : i < 14) (j : Nat) (hj : j < 14) (hne : i ≠ j) : (Cond.not (Cond.eq (ax_tm i) (ax_tm j))) ∈ st_fl ∨ (Cond.not (Cond.eq (ax_tm j) (ax_tm i))) ∈ st_fl := by
  obtain ⟨q, hq, h⟩ := st_ni2 i hi j hj hne
  have m := List.mem_of_getElem? (st_ni1 q hq)
  rcases h with ⟨h1, h2⟩ | ⟨h1, h2⟩
  · rw [h1, h2] at m; exact Or.inl m
  · rw [h1, h2] at m; exact Or.inr m
theorem st_sl : ∀ i, i < 14 → ax_sl.getD i 0 < 2 ^ 31 := by decide
theorem st_ref : ∀ i, i < 14 → (Cond.stringRef "GluedHour$Reader" (ax_ss.getD i (0, "")).1 (ax_ss.getD i (0, "")).2) ∈ lw_tbl
  | 0, _ => tw_3 (i := 23) rfl
  | 1, _ => tw_3 (i := 24) rfl
  | 2, _ => tw_3 (i := 25) rfl
  | 3, _ => tw_2 (i := 174) rfl
  | 4, _ => tw_2 (i := 175) rfl
  | 5, _ => tw_2 (i := 176) rfl
  | 6, _ => tw_2 (i := 177) rfl
  | 7, _ => tw_2 (i := 178) rfl
  | 8, _ => tw_2 (i := 179) rfl
  | 9, _ => tw_2 (i := 180) rfl
  | 10, _ => tw_2 (i := 181) rfl
  | 11, _ => tw_2 (i := 182) rfl
  | 12, _ => tw_2 (i := 183) rfl
  | 13, _ => tw_2 (i := 184) rfl
  | j + 14, h => absurd h (by omega)
theorem st_nf : ∀ q ∈ ax_nf, (Cond.fieldLinkNest q.1 q.2.1 q.2.2.1 q.2.2.2.1 q.2.2.2.2.1 q.2.2.2.2.2) ∈ lw_tbl := List.forall_mem_cons.mpr ⟨tw_1 (i := 90) rfl, List.forall_mem_cons.mpr ⟨tw_1 (i := 92) rfl, List.forall_mem_nil _⟩⟩
theorem st_nm : ∀ q ∈ ax_nm, (Cond.methodLinkNest q.1 q.2.1 q.2.2.1 q.2.2.2) ∈ lw_tbl := List.forall_mem_cons.mpr ⟨tw_1 (i := 200) rfl, List.forall_mem_cons.mpr ⟨tw_1 (i := 221) rfl, List.forall_mem_cons.mpr ⟨tw_2 (i := 3) rfl, List.forall_mem_cons.mpr ⟨tw_2 (i := 73) rfl, List.forall_mem_cons.mpr ⟨tw_2 (i := 8) rfl, List.forall_mem_cons.mpr ⟨tw_2 (i := 51) rfl, List.forall_mem_nil _⟩⟩⟩⟩⟩⟩
theorem st_ao : ∀ C ∈ ax_ao, (Cond.arrayOver (.object C)) ∈ lw_tbl := List.forall_mem_cons.mpr ⟨tw_1 (i := 35) rfl, List.forall_mem_cons.mpr ⟨tw_2 (i := 50) rfl, List.forall_mem_cons.mpr ⟨tw_1 (i := 33) rfl, List.forall_mem_cons.mpr ⟨tw_1 (i := 140) rfl, List.forall_mem_nil _⟩⟩⟩⟩
theorem st_tab {A : Nat → Prop} {args : Array Value} {s : State} (hs : ∀ w ∈ st_fl, w.before args s = true) (hts : ∀ w ∈ lw_tbl, w.before args s = true) (hA : ∀ a, a < s.heap.size → ¬ A a) : ∃ t : Nat → Nat, ∀ (j : Nat) (q : String × String × List Int32), ax_sa[j]? = some q → va_Z q.1 q.2.1 "[I" (.ref (t j)) A s s.heap ∧ va_T .int (t j) q.2.2.length (fun k => .int (q.2.2.getD k 0)) A s s.heap := by
  have h0 : ∀ j : Nat, ∃ t : Nat, ∀ q : String × String × List Int32, ax_sa[j]? = some q → va_Z q.1 q.2.1 "[I" (.ref t) A s s.heap ∧ va_T .int t q.2.2.length (fun k => .int (q.2.2.getD k 0)) A s s.heap := by
    intro j
    by_cases hj : j < 6
    · obtain ⟨a1, a2, a3⟩ := st_sa j hj
      obtain ⟨t, ht, hT⟩ := va_Tof (tm := .static (sq j).1 (sq j).2.1 "[I") (ty := .int) (N := (sq j).2.2.length) (f := fun k => .int ((sq j).2.2.getD k 0)) (A := A) (st_len j hj) (hs _ a1) (va_eqt (hs _ a2)) (fun k hk => va_eqt (hs _ (a3 k hk))) hA
      refine ⟨t, fun q hq => ?_⟩
      have e : sq j = q := by unfold sq; rw [List.getD_eq_getElem?_getD, hq]; rfl
      rw [← e]
      exact ⟨va_Zref (hts _ (st_ly j hj)) (hts _ (st_in j hj)) ht hA, hT⟩
    · exact ⟨0, fun q hq => absurd (List.getElem?_eq_some_iff.mp hq).1 hj⟩
  obtain ⟨t, ht⟩ := Classical.axiomOfChoice h0
  exact ⟨t, ht⟩
theorem st_arr {args : Array Value} {s : State} {ty : FieldType} (hp : ∀ C, ty ≠ .object C) (h : (Cond.arrayClass ty).before args s = true) : ∃ cA, ArrOfT s cA ty ∧ va_RA s cA ty := by
  obtain ⟨cA, kA, comp, h1, h2, h3⟩ := Cond.arrayClass_spec h
  refine ⟨cA, fun n z => ⟨fun k h => (by cases h), kA, h2, comp, h3⟩, ?_⟩
  cases ty <;> first | exact h1 | exact absurd rfl (hp _)
theorem st_arrO {args : Array Value} {s : State} {C : String} (h : (Cond.arrayOver (.object C)).before args s = true) : ∃ cA, ArrOfT s cA (.object C) ∧ va_RA s cA (.object C) := by
  obtain ⟨comp, cA, kA, h1, h2, h3, h4, h5⟩ := Cond.arrayOver_spec h
  exact ⟨cA, fun n z => ⟨fun k h => (by cases h), kA, h3, comp, h4⟩, kA, comp, h3, h4, h1, h5⟩
theorem st_K {args : Array Value} {s : State} (hts : ∀ w ∈ lw_tbl, w.before args s = true) : ∃ (D : va_G) (ar : Nat → ClassId), ∀ (l : Launch) (n : Nat) (f : Nat → Nat), ax_K (l, n, f, D, ar) s := by
  have hgd : ∀ w ∈ lw_gd, w.before args s = true := fun w hw => hts w (List.mem_filter.mp hw).1
  obtain ⟨c0, i0, k0⟩ := u_known (C := RX0) (T := TX0) (N := 4) (n := 4) hgd ig_X0 (hts (.instantiable RX0 4) (tw_1 (i := 199) rfl))
  obtain ⟨c1, i1, k1⟩ := u_known (C := RX1) (T := TX1) (N := 2) (n := 2) hgd ig_X1 (hts (.instantiable RX1 2) (tw_2 (i := 72) rfl))
  obtain ⟨c2, i2, k2⟩ := u_known (C := RX2) (T := TX2) (N := 4) (n := 4) hgd ig_X2 (hts (.instantiable RX2 4) (tw_1 (i := 85) rfl))
  obtain ⟨c3, i3, k3⟩ := u_known (C := RX3) (T := TX3) (N := 3) (n := 3) hgd ig_X3 (hts (.instantiable RX3 3) (tw_1 (i := 220) rfl))
  obtain ⟨c4, i4, k4⟩ := u_known (C := RX4) (T := TX4) (N := 9) (n := 9) hgd ig_X4 (hts (.instantiable RX4 9) (tw_2 (i := 2) rfl))
  obtain ⟨c5, i5, k5⟩ := u_known (C := RX5) (T := TX5) (N := 14) (n := 14) hgd ig_X5 (hts (.instantiable RX5 14) (tw_1 (i := 142) rfl))
  obtain ⟨c6, i6, k6⟩ := u_known (C := RX6) (T := TX6) (N := 7) (n := 7) hgd ig_X6 (hts (.instantiable RX6 7) (tw_1 (i := 36) rfl))
  obtain ⟨c7, i7, k7⟩ := u_known (C := RX7) (T := TX7) (N := 5) (n := 5) hgd ig_X7 (hts (.instantiable RX7 5) (tw_2 (i := 44) rfl))
  obtain ⟨c8, i8, k8⟩ := u_known (C := RX8) (T := TX8) (N := 7) (n := 7) hgd ig_X8 (hts (.instantiable RX8 7) (tw_1 (i := 27) rfl))
  obtain ⟨c9, i9, k9⟩ := u_known (C := RX9) (T := TX9) (N := 9) (n := 9) hgd ig_X9 (hts (.instantiable RX9 9) (tw_1 (i := 19) rfl))
  obtain ⟨c10, i10, k10⟩ := u_known (C := RX10) (T := TX10) (N := 59) (n := 59) hgd ig_X10 (hts (.instantiable RX10 59) (tw_4 (i := 233) rfl))
  obtain ⟨a11, b11⟩ := st_arr (ty := .int) (fun C h => by cases h) (hts (.arrayClass .int) (tw_1 (i := 84) rfl))
  obtain ⟨a12, b12⟩ := st_arr (ty := .byte) (fun C h => by cases h) (hts (.arrayClass .byte) (tw_1 (i := 83) rfl))
  obtain ⟨a13, b13⟩ := st_arr (ty := .boolean) (fun C h => by cases h) (hts (.arrayClass .boolean) (tw_5 (i := 176) rfl))
  obtain ⟨a14, b14⟩ := st_arr (ty := .long) (fun C h => by cases h) (hts (.arrayClass .long) (tw_2 (i := 42) rfl))
  obtain ⟨a15, b15⟩ := st_arrO (C := "GluedHour$Lines") (hts _ (st_ao _ (by decide)))
  obtain ⟨a16, b16⟩ := st_arrO (C := "GluedHour$Odds") (hts _ (st_ao _ (by decide)))
  obtain ⟨a17, b17⟩ := st_arrO (C := "GluedHour$Republic") (hts _ (st_ao _ (by decide)))
  obtain ⟨a18, b18⟩ := st_arrO (C := "GluedHour$Told") (hts _ (st_ao _ (by decide)))
  refine ⟨(fun k => [c0, c1, c2, c3, c4, c5, c6, c7, c8, c9, c10].getD k c0, fun k => [i0, i1, i2, i3, i4, i5, i6, i7, i8, i9, i10].getD k i0), fun k => [a11, a12, a13, a14, a15, a16, a17, a18].getD (k - 11) a11, fun l n f => ⟨fun k q hq => ?_, fun k q hq => ?_⟩⟩
  · match k, hq with
    | 0, hq => cases hq; exact k0
    | 1, hq => cases hq; exact k1
    | 2, hq => cases hq; exact k2
    | 3, hq => cases hq; exact k3
    | 4, hq => cases hq; exact k4
    | 5, hq => cases hq; exact k5
    | 6, hq => cases hq; exact k6
    | 7, hq => cases hq; exact k7
    | 8, hq => cases hq; exact k8
    | 9, hq => cases hq; exact k9
    | 10, hq => cases hq; exact k10
    | k + 11, hq => cases hq
  · match k, hq with
    | 0, hq => cases hq; exact b11
    | 1, hq => cases hq; exact b12
    | 2, hq => cases hq; exact b13
    | 3, hq => cases hq; exact b14
    | 4, hq => cases hq; exact b15
    | 5, hq => cases hq; exact b16
    | 6, hq => cases hq; exact b17
    | 7, hq => cases hq; exact b18
    | k + 8, hq => cases hq
end
end

section
section
theorem st_V {p : Program} {s : State} {m : MethodId} {meth : Method} {c : Code} (l : Launch) {b L : Nat} {xs : Nat → Int32} (C0 : lw_At p s m meth c b L xs) (hnm : meth.name = "law") : ∃ g : ax_G, g.1 = l ∧ g.2.1 = s.heap.size ∧ g.2.2.1 300 = b ∧ g.2.2.1 400 = L ∧ ax_V g cL_law 4 (some .boolean) RL "law" p s m #[Value.ref b] meth c := by
  obtain ⟨hx, hb, hr, hml, hown, hts, hX, hbl, hlocks, hgv⟩ := id C0
  have hs : ∀ w ∈ st_fl, w.before #[Value.ref b] s = true := flat_of_before _ hgv
  have hA : ∀ a : Nat, a < s.heap.size → ¬ (fun q : Nat => s.heap.size ≤ q) a := fun a ha => Nat.not_le.mpr ha
  obtain ⟨t, ht⟩ := st_tab (A := fun q : Nat => s.heap.size ≤ q) hs hts hA
  obtain ⟨adK, adV, hS, hK1⟩ := vk_Sof (args := #[Value.ref b]) (s := s) (N := 14) (tm := ax_tm) (len := ax_sl) (byt := ax_sb) (A := fun q : Nat => s.heap.size ≤ q) st_sl (fun i hi => hs _ (st_str i hi).1) (fun i hi => hs _ (st_str i hi).2.1) (fun i hi => hs _ (st_str i hi).2.2.1) (fun i hi => hs _ (st_str i hi).2.2.2.1) (fun i hi j hj => hs _ ((st_str i hi).2.2.2.2 j hj)) (fun i j hi hj hne => (st_hne i hi j hj hne).imp (fun h => hs _ h) (fun h => hs _ h)) hA
  obtain ⟨f, hf⟩ := Classical.axiomOfChoice ax_oN
  obtain ⟨D, ar, hK⟩ := st_K hts
  obtain ⟨fm, hfm⟩ : ∃ fm : Nat, va_Z "jdk/internal/util/Preconditions" "SIOOBE_FORMATTER" "Ljava/util/function/BiFunction;" .null (fun q : Nat => s.heap.size ≤ q) s s.heap ∨ va_Z "jdk/internal/util/Preconditions" "SIOOBE_FORMATTER" "Ljava/util/function/BiFunction;" (.ref fm) (fun q : Nat => s.heap.size ≤ q) s s.heap := by
    rcases va_Zqof (args := #[Value.ref b]) (hts (.laysStatic "jdk/internal/util/Preconditions" "SIOOBE_FORMATTER" "Ljava/util/function/BiFunction;") (by decide +kernel)) (hts (.initialized "jdk/internal/util/Preconditions") (by decide +kernel)) (hs (Cond.isRef (.static "jdk/internal/util/Preconditions" "SIOOBE_FORMATTER" "Ljava/util/function/BiFunction;")) (by decide +kernel)) hA with z | ⟨t, z⟩
    · exact ⟨0, Or.inl z⟩
    · exact ⟨t, Or.inr z⟩
  let out : Nat → Nat := fun k => if k < 100 then t k else if k < 200 then adK (k - 100) else if k < 300 then adV (k - 200) else if k = 300 then b else if k = 301 then fm else if k = 400 then L else f (xs (k - 1000))
  have o0 : ∀ j, j < 6 → ax_ad (l, s.heap.size, out, D, ar) (1000000 + j) = t j := fun j hj => by
    unfold ax_ad
    rw [if_neg (by omega), show 1000000 + j - 1000000 = j by omega]
    show (if j < 100 then t j else _) = t j
    rw [if_pos (by omega)]
  have o1 : ∀ j, j < 14 → ax_ad (l, s.heap.size, out, D, ar) (1000100 + j) = adK j := fun j hj => by
    unfold ax_ad
    rw [if_neg (by omega), show 1000100 + j - 1000000 = 100 + j by omega]
    show (if 100 + j < 100 then _ else if 100 + j < 200 then adK (100 + j - 100) else _) = adK j
    rw [if_neg (by omega), if_pos (by omega), show 100 + j - 100 = j by omega]
  have o2 : ∀ j, j < 14 → ax_ad (l, s.heap.size, out, D, ar) (1000200 + j) = adV j := fun j hj => by
    unfold ax_ad
    rw [if_neg (by omega), show 1000200 + j - 1000000 = 200 + j by omega]
    show (if 200 + j < 100 then _ else if 200 + j < 200 then _ else if 200 + j < 300 then adV (200 + j - 200) else _) = adV j
    rw [if_neg (by omega), if_neg (by omega), if_pos (by omega), show 200 + j - 200 = j by omega]
  have o3 : ax_ad (l, s.heap.size, out, D, ar) 1000300 = b := rfl
  have o4 : out 400 = L := rfl
  have o5 : ∀ j, Int32.ofNat (out (1000 + j)) = xs j := fun j => by
    show Int32.ofNat (if 1000 + j < 100 then _ else if 1000 + j < 200 then _ else if 1000 + j < 300 then _ else if 1000 + j = 300 then _ else if 1000 + j = 301 then _ else if 1000 + j = 400 then _ else f (xs (1000 + j - 1000))) = xs j
    rw [if_neg (by omega), if_neg (by omega), if_neg (by omega), if_neg (by omega), if_neg (by omega), if_neg (by omega), show 1000 + j - 1000 = j by omega]
    exact hf (xs j)
  refine ⟨(l, s.heap.size, out, D, ar), rfl, rfl, rfl, rfl, hx, hb, hr, hlocks, hml, hown, hnm, fun w hw => hts w (List.mem_filter.mp hw).1, hK l _ out, Nat.le_refl _, fun j q hj => ?_, ⟨fun i hi => ?_, fun i j hi hj e => ?_⟩, fun i q hi => ?_, va_Zof (hts (.laysStatic "java/lang/String" "COMPACT_STRINGS" "Z") (by decide +kernel)) (hts (.initialized "java/lang/String") (by decide +kernel)) (va_eqt (hs (Cond.eq (.static "java/lang/String" "COMPACT_STRINGS" "Z") (.int 1)) (by decide +kernel))) hA, ?_, ?_, fun q hq => va_Nw.of rfl (hts _ (st_nf q hq)), fun q hq => va_Nw.of rfl (hts _ (st_nm q hq)), fun C hC => va_AO.of (hts _ (st_ao C hC)), hfm⟩
  · have h6 : j < 6 := (List.getElem?_eq_some_iff.mp hj).1
    rw [o0 j h6]
    exact ht j q hj
  · dsimp only
    rw [o1 i hi, o2 i hi]
    exact hS.1 i hi
  · dsimp only at e
    rw [o1 i hi, o1 j hj] at e
    exact hS.2 i j hi hj e
  · have h14 : i < 14 := (List.getElem?_eq_some_iff.mp hi).1
    have eq : ax_ss.getD i (0, "") = q := by rw [List.getD_eq_getElem?_getD, hi]; rfl
    have r1 := hts _ (st_ref i h14)
    have r2 := hK1 i h14
    unfold ax_tm at r2
    rw [eq] at r1 r2
    rw [o1 i h14]
    exact vk_R.of r1 r2
  · rw [o3]
    show va_X b (out 400) (fun j => Int32.ofNat (out (1000 + j))) s s.heap
    rw [o4, show (fun j => Int32.ofNat (out (1000 + j))) = xs from funext o5]
    exact hX
  · rw [o3]
    exact Nat.not_le.mpr hbl
theorem st_room : ax_rm 2048 1200000 5502250 = room_1 := rfl
theorem st_end {g : ax_G} {below : List Frame} {args : Array Value} {s t : State} (hg : g.2.1 = s.heap.size) (q : MQ below (ax_Q g (fun v _ => v = some (.int 1))) args s 1200000 5502250 (ax_A g) t) : lw_Z below args s t := by
  obtain ⟨o, h1, h2, ⟨⟨v, h', ho, hv, -⟩, -⟩, L, ⟨-, hW, hS⟩, hL⟩ := q
  subst hv
  have ho : o = .returned (some (.int 1)) := ho
  obtain ⟨a1, a2, a3, a4, a5, a6⟩ := hS
  refine ⟨o, h1, h2, ho, ⟨_, ho⟩, hW, a1, a2, a3, a4, a5, fun a c hc => ?_⟩
  obtain ⟨c', b1, b2, b3, b4⟩ := a6 a c hc
  refine ⟨c', b1, b2, b3, fun i _ => b4 i (fun hm => ?_)⟩
  have : g.2.1 ≤ a := hL _ hm
  rw [hg] at this
  exact absurd (Array.getElem?_eq_some_iff.mp hc).1 (Nat.not_lt.mpr this)
/-- the law out of a walk of the abstract machine -/
theorem st_walk {p : Program} {e : Env} {s : State} {m : MethodId} {below : List Frame} {meth : Method} {c : Code} (l : Launch) {b L : Nat} {xs : Nat → Int32} (C0 : lw_At p s m meth c b L xs) (hnm : meth.name = "law") (hw : ∀ (g : ax_G) (A : ax_S → Prop), ax_HA (tL_law g) (fun v _ => v = some (.int 1)) A → g.2.2.1 400 = L → A (0, ax_en [.ref 1000300] 4, [], h00, 0, 0)) : W p l e room_1 s m #[Value.ref b] below meth c s.heap [] 0 0 (lw_Z below #[Value.ref b] s) (entryFrame m ([Value.ref b] : List Value).toArray 4) := by
  obtain ⟨g, e1, e2, e3, e4, V⟩ := st_V l C0 hnm
  have key := hw g (ax_W g 4 2048 1200000 5502250 p e s m #[Value.ref b] below meth c (fun v _ => v = some (.int 1))) (fun σ K ho hK => by
    obtain ⟨pc, L, st, h, u1, u2⟩ := σ
    exact oL_law g pc p e s m _ below meth c V _ L st h u1 u2 _ ho hK) e4
  have eb : ax_ad g 1000300 = b := e3
  have hl := lv_entry ([.ref b]) (n := 4) (Nat.le_of_ble_eq_true rfl)
  rw [lg_entry_eq]
  generalize (lg_sl ([.ref b]) ++ List.replicate (4 - (lg_sl ([.ref b])).length) Slot.unset).toArray = ls at hl ⊢
  have hP0 : va_P g.2.2.2.1 vwCl (ax_w g h00) s.heap := fun k q h => by
    have e0 : (ax_w g h00) = [] := rfl
    rw [e0] at h
    exact absurd h (by simp)
  have hP : ax_P g h00 s.heap := ⟨hP0, by rw [e2]; rfl, by decide⟩
  have k2 := key s.heap [] ls hP va_S.rf ⟨hl.1, hl.2.1, fun q hq => hl.2.2 q ?_⟩
  · intro T hT X
    rw [← e1, ← st_room] at X
    obtain ⟨t, a1, b1⟩ := k2 T hT X
    exact ⟨t, a1, st_end e2 b1⟩
  · have : (List.map (Option.map (ax_v g)) (ax_en [.ref 1000300] 4)) = [some (.ref b), none, none, none] := by
      show [some (Value.ref (ax_ad g 1000300)), none, none, none] = _
      rw [eb]
    have hq : q ∈ ax_as 0 (List.map (Option.map (ax_v g)) (ax_en [.ref 1000300] 4)) := hq
    rw [this] at hq
    exact hq
end
end

section
section
theorem whole_start {p : Program} {e : Env} {s : State} {m : MethodId} {below : List Frame} {meth : Method} {c : Code} (l : Launch) {b L : Nat} {xs : Nat → Int32} (hL : L ≤ 3072) (C0 : lw_At p s m meth c b L xs) (hnm : meth.name = "law") : W p l e room_1 s m #[Value.ref b] below meth c s.heap [] 0 0 (lw_Z below #[Value.ref b] s) (entryFrame m ([Value.ref b] : List Value).toArray 4) :=
  st_walk l C0 hnm (fun g A hA eL => pt_law hA (by rw [eL]; exact hL))
end
end

