section
variable {g : ax_G} {cc : ByteArray} {nL : Nat} {ret : Option FieldType} {own nm : String} {d mc ms pc : Nat}
theorem ax_off {a lo n : Nat} (h1 : lo ≤ a) (h2 : a < lo + n) : ∃ i, i < n ∧ a = lo + i := ⟨a - lo, by omega, by omega⟩
/-! String constants: places 1000100 .. 1000113, their bytes 1000200 .. 1000213 -/
def ao_ldcs (i : Nat) : ax_O := fun _ σ K => match σ with
  | (pc, L, st, h, u1, u2) => K (pc + 2, L, .ref (1000100 + i) :: st, h, u1, u2)
theorem ak_ldcs {i index : Nat} {tx : String} (hi : ax_ss[i]? = some (index, tx)) (hd : decode cc pc = .ok (.ldc index, 2)) : ax_ok g cc nL ret "GluedHour$Reader" nm d mc ms pc (ao_ldcs i) := by
  intro p e s m args below meth c V Ret L st h u1 u2 K ho hK H locs ls hP hS hlr
  dsimp only [ao_ldcs] at ho
  exact va_ldcS V.1 V.2.1 V.2.2.2.2.2.1 (V.2.2.2.2.2.2.2.2.2.2.2.2.1 i _ hi) hd (hK _ ho H locs ls hP hS hlr)
def ao_sgv : ax_O := fun _ σ K => match σ with
  | (pc, L, st, h, u1, u2) => match st with
    | .ref a :: r => (1000100 ≤ a ∧ a < 1000114) ∧ K (pc + 3, L, .ref (a + 100) :: r, h, u1, u2)
    | _ => False
theorem ak_sgv {index : Nat} (hl : Cond.fieldLink own index "java/lang/String" "value" "[B" ∈ lw_gd) (hd : decode cc pc = .ok (.getfield index, 3)) : ax_ok g cc nL ret own nm d mc ms pc ao_sgv := by
  intro p e s m args below meth c V Ret L st h u1 u2 K ho hK H locs ls hP hS hlr
  dsimp only [ao_sgv] at ho
  split at ho
  · rename_i a r
    obtain ⟨i, hi14, rfl⟩ := ax_off (n := 14) ho.1.1 ho.1.2
    have hv := (V.2.2.2.2.2.2.2.2.2.2.2.1.1 i hi14).2.2.1
    refine vk_getf V.1 V.2.1 hv hS V.2.2.2.2.2.1 (V.2.2.2.2.2.2.2.1 _ hl) (fun _ h => h) hd ?_
    have := hK _ ho.2 H locs ls hP hS hlr
    rw [show (1000100 + i + 100 : Nat) = 1000200 + i from by rw [Nat.add_right_comm]] at this
    exact this
  · exact ho.elim
def ao_sgc : ax_O := fun _ σ K => match σ with
  | (pc, L, st, h, u1, u2) => match st with
    | .ref a :: r => (1000100 ≤ a ∧ a < 1000114) ∧ K (pc + 3, L, .int 0 :: r, h, u1, u2)
    | _ => False
theorem ak_sgc {index : Nat} (hl : Cond.fieldLink own index "java/lang/String" "coder" "B" ∈ lw_gd) (hd : decode cc pc = .ok (.getfield index, 3)) : ax_ok g cc nL ret own nm d mc ms pc ao_sgc := by
  intro p e s m args below meth c V Ret L st h u1 u2 K ho hK H locs ls hP hS hlr
  dsimp only [ao_sgc] at ho
  split at ho
  · rename_i a r
    obtain ⟨i, hi14, rfl⟩ := ax_off (n := 14) ho.1.1 ho.1.2
    have hv := (V.2.2.2.2.2.2.2.2.2.2.2.1.1 i hi14).2.1
    exact vk_getf V.1 V.2.1 hv hS V.2.2.2.2.2.1 (V.2.2.2.2.2.2.2.1 _ hl) (fun _ h => h) hd (hK _ ho.2 H locs ls hP hS hlr)
  · exact ho.elim
theorem ak_gcs {index : Nat} (hl : Cond.fieldLink own index "java/lang/String" "COMPACT_STRINGS" "Z" ∈ lw_gd) (hd : decode cc pc = .ok (.getstatic index, 3)) : ax_ok g cc nL ret own nm d mc ms pc (ao_ic 1 3) := by
  intro p e s m args below meth c V Ret L st h u1 u2 K ho hK H locs ls hP hS hlr
  dsimp only [ao_ic] at ho
  exact va_gets V.1 V.2.1 V.2.2.2.2.2.2.2.2.2.2.2.2.2.1 hS V.2.2.2.2.2.1 (V.2.2.2.2.2.2.2.1 _ hl) (fun _ h => h) hd (hK _ ho H locs ls hP hS hlr)
def ao_slen : ax_O := fun _ σ K => match σ with
  | (pc, L, st, h, u1, u2) => match st with
    | .ref a :: r => (1000200 ≤ a ∧ a < 1000214) ∧ K (pc + 1, L, .int (Int32.ofNat (ax_sl.getD (a - 1000200) 0)) :: r, h, u1, u2)
    | _ => False
theorem ak_slen (hd : decode cc pc = .ok (.arraylength, 1)) : ax_ok g cc nL ret own nm d mc ms pc ao_slen := by
  intro p e s m args below meth c V Ret L st h u1 u2 K ho hK H locs ls hP hS hlr
  dsimp only [ao_slen] at ho
  split at ho
  · rename_i a r
    obtain ⟨i, hi14, rfl⟩ := ax_off (n := 14) ho.1.1 ho.1.2
    have hv := (V.2.2.2.2.2.2.2.2.2.2.2.1.1 i hi14).2.2.2
    have := ho.2
    rw [show (1000200 + i - 1000200 : Nat) = i from Nat.add_sub_cancel_left _ _] at this
    exact va_tlen V.1 V.2.1 hv hS rfl hd (hK _ this H locs ls hP hS hlr)
  · exact ho.elim
def ao_sbld : ax_O := fun _ σ K => match σ with
  | (pc, L, st, h, u1, u2) => match st with
    | .int j :: .ref a :: r => (1000200 ≤ a ∧ a < 1000214) ∧ vp_in j (ax_sl.getD (a - 1000200) 0) ∧ K (pc + 1, L, .int ((ax_sb.getD (a - 1000200) []).getD j.toNatClampNeg 0) :: r, h, u1, u2)
    | _ => False
theorem ak_sbld (hd : decode cc pc = .ok (.baload, 1)) : ax_ok g cc nL ret own nm d mc ms pc ao_sbld := by
  intro p e s m args below meth c V Ret L st h u1 u2 K ho hK H locs ls hP hS hlr
  dsimp only [ao_sbld] at ho
  split at ho
  · rename_i j a r
    obtain ⟨i, hi14, rfl⟩ := ax_off (n := 14) ho.1.1 ho.1.2
    have hv := (V.2.2.2.2.2.2.2.2.2.2.2.1.1 i hi14).2.2.2
    have := ho.2
    rw [show (1000200 + i - 1000200 : Nat) = i from Nat.add_sub_cancel_left _ _] at this
    exact va_tb V.1 V.2.1 hv hS this.1 rfl hd (hK _ this.2 H locs ls hP hS hlr)
  · exact ho.elim
def ao_nret (ty : FieldType) : ax_O := fun Ret σ _ => match σ with
  | (pc, L, st, h, u1, u2) => match st with
    | [.int x] => (u1 ≤ 0 ∧ u2 ≤ 0) ∧ narrow ty (.int x) = .int x ∧ Ret (some (.int x)) h
    | _ => False
theorem ak_nret {ty : FieldType} (hr : ret = some ty) (hd : decode cc pc = .ok (.ireturn, 1)) : ax_ok g cc nL ret own nm d 0 0 pc (ao_nret ty) := by
  intro p e s m args below meth c V Ret L st h u1 u2 K ho hK H locs ls hP hS hl
  dsimp only [ao_nret] at ho
  split at ho
  · rename_i x
    refine W.widen ho.1.1 ho.1.2 ?_
    exact W.zret V.1 V.2.1 (V.2.2.1.trans hr) ho.2.1 (ax_qr (v := some (.int x)) hP hS ho.2.2) hS.2.2 hd V.2.2.2.1
  · exact ho.elim
/-- a method of a String constant -/
def ao_invs (g : ax_G) (d' : Nat) (y : MethodName) (cc : ByteArray) (nL : Nat) (ret : Option FieldType) (n : Nat) : ax_O := fun _ σ K => match σ with
  | (pc, L, st, h, u1, u2) => match ax_sp n [] st with
    | some (as, rest) => (∃ i bs, i < 14 ∧ as = .ref (1000100 + i) :: bs) ∧ ((rest.map Value.category).sum ≤ 8 ∧ u1 = 0 ∧ u2 = 0) ∧ ax_M g d' 0 0 y cc nL ret as h (fun v h' => ax_rk 1 v (fun vs => K (pc + 3, L, vs ++ rest, h', u1, u2)))
    | none => False
theorem ak_invs {d' : Nat} (hdl : d' < d) {y : MethodName} {cc' : ByteArray} {nL' n index : Nat} {ret' : Option FieldType} (hcls : y.cls = "java/lang/String") (hn' : nL' ≤ 22) (hl : Cond.methodLink own index y ∈ lw_gd) (him : Cond.instanceMethod y ∈ lw_gd) (hsel : Cond.selects y.cls y y ∈ lw_gd) (hi : Cond.initialized y.cls ∈ lw_gd) (hcode : Cond.code y cc' nL' ret' ∈ lw_gd) (hdd : y.cls ≠ "java/lang/invoke/MethodHandle" ∧ y.cls ≠ "java/lang/invoke/VarHandle" ∧ (parseMethodDescriptor y.desc).map (fun d => d.parameters.length) = some n) (hd : decode cc pc = .ok (.invokevirtual index, 3)) : ax_ok g cc nL ret own nm d mc ms pc (ao_invs g d' y cc' nL' ret' (n + 1)) := by
  intro p e s m args below meth c V Ret L st h u1 u2 K ho hK H locs ls hP hS hlr
  dsimp only [ao_invs] at ho
  split at ho
  · rename_i as rest hsp
    obtain ⟨⟨i, As, hi14, rfl⟩, ⟨hrest, rfl, rfl⟩, hM⟩ := ho
    obtain ⟨bs, h1, h2, h3⟩ := ax_sp_eq _ _ _ _ _ hsp
    rw [List.append_nil] at h1
    subst h1
    have hpre := ax_PreS (as := .ref (1000100 + i) :: As) V hP hS
    have hrecv := vk_recv V.2.2.2.2.2.2.2.2.2.2.2.1 hi14 hS
    rw [← hcls] at hrecv
    have hmap : (Value.ref (1000100 + i) :: As).map (ax_v g) = .ref (ax_ad g (1000100 + i)) :: As.map (ax_v g) := rfl
    rw [hmap] at hpre
    refine ax_call (mc' := 0) (ms' := 0) (rest := rest.map (ax_v g)) (va_runV (C := y.cls) (b := ax_ad g (1000100 + i)) (As := As.map (ax_v g)) (n := n) ⟨V.1, V.2.1, V.2.2.2.2.1, V.2.2.2.2.2.1, V.2.2.2.2.2.2.2.1⟩ hM (cwV n V.2.2.2.2.2.2.2.1 (ax_gi ?_) rfl rfl rfl ⟨rfl, hdd⟩ (ax_rmL hdl hn' 0 0 mc ms)) ⟨hpre.1, hrecv, hpre.2⟩ rfl (by rw [List.length_map]; simpa using h2) hlr.1 (by show List.map (ax_v g) st = _; rw [h3, List.map_append, List.map_reverse, hmap, List.reverse_cons, List.append_assoc]; rfl) (by show 0 + _ ≤ 8; rw [Nat.zero_add, ax_sum]; exact hrest) hd ⟨Nat.zero_le _, Nat.zero_le _⟩) hS ?_
    · intro w hw
      rcases List.mem_append.mp hw with hw | hw
      · simp only [List.mem_cons, List.not_mem_nil, or_false] at hw
        rcases hw with rfl | rfl | rfl | rfl
        · exact hl
        · exact him
        · exact hsel
        · exact hi
      · exact ax_pre hcode w hw
    · intro v h' H1 locs1 hR hP1 hS1
      have := hK _ (ax_rk_use hR) H1 locs1 ls hP1 hS1 hlr
      cases v <;> exact this
  · exact ho.elim
end
section
variable {g : ax_G} {cc : ByteArray} {nL : Nat} {ret : Option FieldType} {own nm : String} {d mc ms pc : Nat}
/-! the script: place 1000300 -/
def ao_xlen (g : ax_G) : ax_O := fun _ σ K => match σ with
  | (pc, L, st, h, u1, u2) => match st with
    | .ref a :: r => a = 1000300 ∧ K (pc + 1, L, .int (Int32.ofNat (g.2.2.1 400)) :: r, h, u1, u2)
    | _ => False
theorem ak_xlen (hd : decode cc pc = .ok (.arraylength, 1)) : ax_ok g cc nL ret own nm d mc ms pc (ao_xlen g) := by
  intro p e s m args below meth c V Ret L st h u1 u2 K ho hK H locs ls hP hS hlr
  dsimp only [ao_xlen] at ho
  split at ho
  · obtain ⟨rfl, ho⟩ := ho
    obtain ⟨hX, hA, -⟩ := V.2.2.2.2.2.2.2.2.2.2.2.2.2.2
    exact va_slen V.1 V.2.1 hX (by obtain ⟨_, h1, _⟩ := hX; exact (Array.getElem?_eq_some_iff.mp h1).1) hA hS hd (hK _ ho H locs ls hP hS hlr)
  · exact ho.elim
def ao_xld (g : ax_G) : ax_O := fun _ σ K => match σ with
  | (pc, L, st, h, u1, u2) => match st with
    | .int i :: .ref a :: r => a = 1000300 ∧ vp_in i (g.2.2.1 400) ∧ K (pc + 1, L, .int (Int32.ofNat (g.2.2.1 (1000 + i.toNatClampNeg))) :: r, h, u1, u2)
    | _ => False
theorem ak_xld (hd : decode cc pc = .ok (.iaload, 1)) : ax_ok g cc nL ret own nm d mc ms pc (ao_xld g) := by
  intro p e s m args below meth c V Ret L st h u1 u2 K ho hK H locs ls hP hS hlr
  dsimp only [ao_xld] at ho
  split at ho
  · obtain ⟨rfl, hin, ho⟩ := ho
    obtain ⟨hX, hA, -⟩ := V.2.2.2.2.2.2.2.2.2.2.2.2.2.2
    exact va_sld V.1 V.2.1 hX (by obtain ⟨_, h1, _⟩ := hX; exact (Array.getElem?_eq_some_iff.mp h1).1) hA hS hin hd (hK _ ho H locs ls hP hS hlr)
  · exact ho.elim
end
section
variable {g : ax_G} {cc : ByteArray} {nL : Nat} {ret : Option FieldType} {own nm : String} {d mc ms pc : Nat}
def ao_zast : ax_O := fun _ σ K => match σ with
  | (pc, L, st, h, u1, u2) => match st with
    | .int x :: .int i :: .ref a :: r => (x = 0 ∨ x = 1) ∧ (ax_s h a).1 = 13 ∧ vp_in i (ax_s h a).2 ∧ K (pc + 1, L, r, ax_pi h a i.toNatClampNeg x, u1, u2)
    | _ => False
theorem ak_zast (hd : decode cc pc = .ok (.bastore, 1)) : ax_ok g cc nL ret own nm d mc ms pc ao_zast := by
  intro p e s m args below meth c V Ret L st h u1 u2 K ho hK H locs ls hP hS hl
  dsimp only [ao_zast] at ho
  split at ho
  · rename_i x i a r
    obtain ⟨h01, ho⟩ := ho
    obtain ⟨ha, hw, hv, hk, hln⟩ := ax_arr hP ho.1 (by decide) (by decide)
    show W _ _ _ _ _ _ _ _ _ _ _ _ _ _ _ (F0 m pc ls (Value.int x :: .int i :: ax_v g (.ref a) :: r.map (ax_v g)))
    rw [hv]
    have hat : H[g.2.1 + a]? = some (arrV (g.2.2.2.2 13) (ax_s h a).2 (fun j => .int (ax_i h a j))) := hP.1 a _ hw
    refine W.zast V.1 V.2.1 hat ((V.2.2.2.2.2.2.2.2.1.2 2 _ rfl).1 _ _) (fun q => by cases q) (ax_in_size ho.2.1) rfl rfl hd fun H1 e1 z oq => ?_
    refine hK _ ho.2.2 H1 _ ls (ax_P_set hP rfl (fun b hb => ax_e_cong rfl (ax_u_ne hb) rfl rfl) ha ?_ z oq) (hS.put z oq (Nat.le_add_right _ _)) hl
    rw [ax_e_arr (h := ax_pi h a i.toNatClampNeg x) (kd := 13) hk (by decide)]
    show H1[g.2.1 + a]? = some (arrV (g.2.2.2.2 13) (h.2.1 a).2 (fun j => .int (ax_u h.2.2.1 a i.toNatClampNeg x a j)))
    rw [e1, arrV_store, hln, ax_u_eq]
    have hnr : narrow .boolean (.int x) = .int x := by rcases h01 with rfl | rfl <;> rfl
    congr 2
    funext q
    by_cases hq : q = i.toNatClampNeg
    · subst hq
      simp [updV, hnr]
    · simp [updV, hq, ax_i]
  · exact ho.elim
end
