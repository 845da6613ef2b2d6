section
/-! String.checkIndex, where the index is in -/
def ao_gfm : ax_O := fun _ σ K => match σ with
  | (pc, L, st, h, u1, u2) => K (pc + 3, L, .null :: st, h, u1, u2) ∧ K (pc + 3, L, .ref 1000301 :: st, h, u1, u2)
section
variable {g : ax_G} {cc : ByteArray} {nL : Nat} {ret : Option FieldType} {own nm : String} {d mc ms pc : Nat}
theorem ak_gfm {index : Nat} (hl : Cond.fieldLink own index "jdk/internal/util/Preconditions" "SIOOBE_FORMATTER" "Ljava/util/function/BiFunction;" ∈ lw_gd) (hd : decode cc pc = .ok (.getstatic index, 3)) : ax_ok g cc nL ret own nm d mc ms pc ao_gfm := by
  intro p e s m args below meth c V Ret L st h u1 u2 K ho hK H locs ls hP hS hlr
  dsimp only [ao_gfm] at ho
  rcases V.2.2.2.2.2.2.2.2.2.2.2.2.2.2.2.2.2.2.2 with z | z
  · exact va_gets V.1 V.2.1 z hS V.2.2.2.2.2.1 (V.2.2.2.2.2.2.2.1 _ hl) (fun _ h => h) hd (hK _ ho.1 H locs ls hP hS hlr)
  · exact va_gets V.1 V.2.1 z hS V.2.2.2.2.2.1 (V.2.2.2.2.2.2.2.1 _ hl) (fun _ h => h) hd (hK _ ho.2 H locs ls hP hS hlr)
end
theorem wc_1 : Cond.fieldLink RJ0 1053 "jdk/internal/util/Preconditions" "SIOOBE_FORMATTER" "Ljava/util/function/BiFunction;" ∈ lw_gd := List.mem_filter.mpr ⟨by decide +kernel, rfl⟩
theorem wc_2 : Cond.methodLink RJ0 1059 yJ3_checkIndex_8e157 ∈ lw_gd := List.mem_filter.mpr ⟨by decide +kernel, rfl⟩
theorem wc_3 : Cond.static yJ3_checkIndex_8e157 ∈ lw_gd := List.mem_filter.mpr ⟨by decide +kernel, rfl⟩
theorem wc_4 : Cond.initialized yJ3_checkIndex_8e157.cls ∈ lw_gd := List.mem_filter.mpr ⟨by decide +kernel, rfl⟩
theorem wc_5 : Cond.code yJ3_checkIndex_8e157 cJ3_checkIndex_8e157 3 (some .int) ∈ lw_gd := List.mem_filter.mpr ⟨by decide +kernel, rfl⟩
theorem dJ3_ci_0 : decode cJ3_checkIndex_8e157 0 = .ok (.iload_n 0, 1) := by decide +kernel
theorem dJ3_ci_1 : decode cJ3_checkIndex_8e157 1 = .ok (.ifCond .lt 8, 3) := by decide +kernel
theorem dJ3_ci_4 : decode cJ3_checkIndex_8e157 4 = .ok (.iload_n 0, 1) := by decide +kernel
theorem dJ3_ci_5 : decode cJ3_checkIndex_8e157 5 = .ok (.iload_n 1, 1) := by decide +kernel
theorem dJ3_ci_6 : decode cJ3_checkIndex_8e157 6 = .ok (.if_icmp .lt 10, 3) := by decide +kernel
theorem dJ3_ci_16 : decode cJ3_checkIndex_8e157 16 = .ok (.iload_n 0, 1) := by decide +kernel
theorem dJ3_ci_17 : decode cJ3_checkIndex_8e157 17 = .ok (.ireturn, 1) := by decide +kernel
def tJ3_ci : Nat → ax_O := ax_nd 4 (ax_nd 0 (ax_lf 0 (ao_il 0 1)) (ax_nd 1 (ax_lf 1 (ao_if_lt 9)) (ax_lf 4 (ao_il 0 1)))) (ax_nd 6 (ax_nd 5 (ax_lf 5 (ao_il 1 1)) (ax_lf 6 (ao_icmp_lt 16))) (ax_nd 16 (ax_lf 16 (ao_il 0 1)) (ax_lf 17 (ao_iret 0 0))))
theorem oJ3_ci (g : ax_G) : ∀ pc, ax_ok g cJ3_checkIndex_8e157 3 (some .int) RJ3 "checkIndex" 1 0 0 pc (tJ3_ci pc) := ax_nd_ok (ax_nd_ok (ax_lf_ok (ak_iload_n rfl dJ3_ci_0)) (ax_nd_ok (ax_lf_ok (ak_if_lt (by decide) dJ3_ci_1)) (ax_lf_ok (ak_iload_n rfl dJ3_ci_4)))) (ax_nd_ok (ax_nd_ok (ax_lf_ok (ak_iload_n rfl dJ3_ci_5)) (ax_lf_ok (ak_icmp_lt (by decide) dJ3_ci_6))) (ax_nd_ok (ax_lf_ok (ak_iload_n rfl dJ3_ci_16)) (ax_lf_ok (ak_iret rfl dJ3_ci_17))))
set_option maxHeartbeats 4000000 in
set_option maxRecDepth 100000 in
theorem eJ3_ci {g : ax_G} {Ret : Option Value → ax_H → Prop} {x0 x1 : Int32} {a2 : Nat} {h : ax_H} (v : (x0 < 0 → False) ∧ (¬ (x0 < 0) → ((x0 < x1 → (0 ≤ 0 ∧ 0 ≤ 0) ∧ Ret (some (.int x0)) h) ∧ (¬ (x0 < x1) → False)))) : ax_M g 1 0 0 yJ3_checkIndex_8e157 cJ3_checkIndex_8e157 3 (some .int) [.int x0, .int x1, .ref a2] h Ret := ax_meth (tbl := tJ3_ci) (by decide +kernel) (Nat.le_of_ble_eq_true rfl) (oJ3_ci g) (fun A hA => ax_go1 hA (fun p => false) 900 _ ⟨fun q => (v.1 q).elim, fun q => ⟨fun q2 => ((v.2 q).1 q2).2, fun q2 => ((v.2 q).2 q2).elim⟩⟩)
set_option maxHeartbeats 4000000 in
set_option maxRecDepth 100000 in
theorem eJ3_cn {g : ax_G} {Ret : Option Value → ax_H → Prop} {x0 x1 : Int32} {h : ax_H} (v : (x0 < 0 → False) ∧ (¬ (x0 < 0) → ((x0 < x1 → (0 ≤ 0 ∧ 0 ≤ 0) ∧ Ret (some (.int x0)) h) ∧ (¬ (x0 < x1) → False)))) : ax_M g 1 0 0 yJ3_checkIndex_8e157 cJ3_checkIndex_8e157 3 (some .int) [.int x0, .int x1, .null] h Ret := ax_meth (tbl := tJ3_ci) (by decide +kernel) (Nat.le_of_ble_eq_true rfl) (oJ3_ci g) (fun A hA => ax_go1 hA (fun p => false) 900 _ ⟨fun q => (v.1 q).elim, fun q => ⟨fun q2 => ((v.2 q).1 q2).2, fun q2 => ((v.2 q).2 q2).elim⟩⟩)
theorem dJ0_ci_0 : decode cJ0_checkIndex_df160 0 = .ok (.iload_n 0, 1) := by decide +kernel
theorem dJ0_ci_1 : decode cJ0_checkIndex_df160 1 = .ok (.iload_n 1, 1) := by decide +kernel
theorem dJ0_ci_2 : decode cJ0_checkIndex_df160 2 = .ok (.getstatic 1053, 3) := by decide +kernel
theorem dJ0_ci_5 : decode cJ0_checkIndex_df160 5 = .ok (.invokestatic 1059, 3) := by decide +kernel
theorem dJ0_ci_8 : decode cJ0_checkIndex_df160 8 = .ok (.pop, 1) := by decide +kernel
theorem dJ0_ci_9 : decode cJ0_checkIndex_df160 9 = .ok (.return_, 1) := by decide +kernel
def tJ0_ci (g : ax_G) : Nat → ax_O := ax_nd 2 (ax_nd 0 (ax_lf 0 (ao_il 0 1)) (ax_nd 1 (ax_lf 1 (ao_il 1 1)) (ax_lf 2 ao_gfm))) (ax_nd 5 (ax_lf 5 (ao_inv g 1 99 1 yJ3_checkIndex_8e157 cJ3_checkIndex_8e157 3 (some .int) 3 0 0 0 0)) (ax_nd 8 (ax_lf 8 ao_pop) (ax_lf 9 (ao_vret 0 0))))
theorem oJ0_ci (g : ax_G) : ∀ pc, ax_ok g cJ0_checkIndex_df160 2 none RJ0 "checkIndex" 2 0 0 pc (tJ0_ci g pc) := ax_nd_ok (ax_nd_ok (ax_lf_ok (ak_iload_n rfl dJ0_ci_0)) (ax_nd_ok (ax_lf_ok (ak_iload_n rfl dJ0_ci_1)) (ax_lf_ok (ak_gfm wc_1 dJ0_ci_2)))) (ax_nd_ok (ax_lf_ok (ak_invS (by decide) (by decide) wc_2 wc_3 wc_4 wc_5 ⟨by decide, by decide, by decide +kernel⟩ dJ0_ci_5)) (ax_nd_ok (ax_lf_ok (ak_pop dJ0_ci_8)) (ax_lf_ok (ak_vret rfl dJ0_ci_9))))
set_option maxHeartbeats 4000000 in
set_option maxRecDepth 100000 in
theorem eJ0_ci {g : ax_G} {Ret : Option Value → ax_H → Prop} {x0 x1 : Int32} {h : ax_H} (v : (x0 < 0 → False) ∧ (¬ (x0 < 0) → ((x0 < x1 → Ret none h) ∧ (¬ (x0 < x1) → False)))) : ax_M g 2 0 0 yJ0_checkIndex_df160 cJ0_checkIndex_df160 2 none [.int x0, .int x1] h Ret := ax_meth (tbl := tJ0_ci g) (by decide +kernel) (Nat.le_of_ble_eq_true rfl) (oJ0_ci g) (fun A hA => ax_go1 hA (fun p => false) 900 _ ⟨eJ3_cn ⟨fun q => (v.1 q).elim, fun q => ⟨fun q2 => ⟨⟨Nat.le_refl _, Nat.le_refl _⟩, _, rfl, rfl, (v.2 q).1 q2⟩, fun q2 => ((v.2 q).2 q2).elim⟩⟩, eJ3_ci ⟨fun q => (v.1 q).elim, fun q => ⟨fun q2 => ⟨⟨Nat.le_refl _, Nat.le_refl _⟩, _, rfl, rfl, (v.2 q).1 q2⟩, fun q2 => ((v.2 q).2 q2).elim⟩⟩⟩)
end
