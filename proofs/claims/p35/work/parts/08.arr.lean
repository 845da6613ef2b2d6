section
variable {g : ax_G} {cc : ByteArray} {nL : Nat} {ret : Option FieldType} {own nm : String} {d mc ms pc : Nat}
/-- a method of an object -/
theorem ak_invV {d' rk : Nat} (hdl : d' < d) {y : MethodName} {cc' : ByteArray} {nL' n mc' ms' index ci N : Nat} {T : u_T} {ret' : Option FieldType} (hn' : nL' ≤ 22) (hci : ci < 11) (hcl : vwCl[ci]? = some (y.cls, T, N)) (hl : Cond.methodLink own index y ∈ lw_gd) (him : Cond.instanceMethod y ∈ lw_gd) (hsel : Cond.selects y.cls y y ∈ lw_gd) (hi : Cond.initialized y.cls ∈ lw_gd) (hcode : Cond.code y cc' nL' ret' ∈ lw_gd) (hdd : y.cls ≠ "java/lang/invoke/MethodHandle" ∧ y.cls ≠ "java/lang/invoke/VarHandle" ∧ (parseMethodDescriptor y.desc).map (fun d => d.parameters.length) = some n) (hd : decode cc pc = .ok (.invokevirtual index, 3)) : ax_ok g cc nL ret own nm d mc ms pc (ao_inv g d' ci rk y cc' nL' ret' (n + 1) mc' mc ms' ms) := by
  intro p e s m args below meth c V Ret L st h u1 u2 K ho hK H locs ls hP hS hlr
  dsimp only [ao_inv] at ho
  split at ho
  · rename_i as rest hsp
    obtain ⟨⟨hrest, hc1, hc2⟩, ho⟩ := ax_bif3 ho
    obtain ⟨hrc, hM⟩ := ax_rc_use ho
    obtain ⟨bs, h1, h2, h3⟩ := ax_sp_eq _ _ _ _ _ hsp
    rw [List.append_nil] at h1
    subst h1
    obtain ⟨a, As, rfl, hsa⟩ := hrc.resolve_left (by omega)
    obtain ⟨ha, hs, -⟩ := ax_s_lt hsa (by omega)
    have hpre := ax_PreS (as := .ref a :: As) V hP hS
    have hrecv := va_recv V.2.2.2.2.2.2.2.2.1 hP.1 hcl (q0 := a) (a := g.2.1 + a) (fs := ax_fl g h (ax_ft ci) a) ((ax_w_get ha).trans (by rw [ax_e_obj hs hci]))
    have hvr := ax_vr hP ha
    have hmap : (Value.ref a :: As).map (ax_v g) = .ref (g.2.1 + a) :: As.map (ax_v g) := by rw [List.map_cons, hvr]
    rw [hmap] at hpre
    refine ax_call (mc' := mc') (ms' := ms') (rest := rest.map (ax_v g)) (va_runV (C := y.cls) (b := g.2.1 + a) (As := As.map (ax_v g)) (n := n) ⟨V.1, V.2.1, V.2.2.2.2.1, V.2.2.2.2.2.1, V.2.2.2.2.2.2.2.1⟩ hM (cwV n V.2.2.2.2.2.2.2.1 (ax_gi ?_) rfl rfl rfl ⟨rfl, hdd⟩ (ax_rmL hdl hn' mc' ms' mc ms)) ⟨hpre.1, hrecv, hpre.2⟩ rfl (by rw [List.length_map]; simpa using h2) hlr.1 (by show List.map (ax_v g) st = _; rw [h3, List.map_append, List.map_reverse, hmap, List.reverse_cons, List.append_assoc]; rfl) (by show 0 + _ ≤ 8; rw [Nat.zero_add, ax_sum]; exact hrest) hd ⟨hc1, hc2⟩) hS ?_
    · intro w hw
      rcases List.mem_append.mp hw with hw | hw
      · simp only [List.mem_cons, List.not_mem_nil, or_false] at hw
        rcases hw with rfl | rfl | rfl | rfl
        · exact hl
        · exact him
        · exact hsel
        · exact hi
      · exact ax_pre hcode w hw
    · intro v h' H1 locs1 hR hP1 hS1
      have := hK _ (ax_rk_use hR) H1 locs1 ls hP1 hS1 hlr
      cases v <;> exact this
  · exact ho.elim
/-- a constructor of an object -/
theorem ak_invI {d' rk : Nat} (hdl : d' < d) {y : MethodName} {cc' : ByteArray} {nL' n mc' ms' index ci : Nat} (hn' : nL' ≤ 22) (hci : ci < 11) (hl : Cond.methodLink own index y ∈ lw_gd) (him : Cond.instanceMethod y ∈ lw_gd) (hi : Cond.initialized y.cls ∈ lw_gd) (hcode : Cond.code y cc' nL' none ∈ lw_gd) (hnm : y.name = "<init>") (hdd : y.cls ≠ "java/lang/invoke/MethodHandle" ∧ y.cls ≠ "java/lang/invoke/VarHandle" ∧ (parseMethodDescriptor y.desc).map (fun d => d.parameters.length) = some n) (hd : decode cc pc = .ok (.invokespecial index, 3)) : ax_ok g cc nL ret own nm d mc ms pc (ao_inv g d' ci rk y cc' nL' none (n + 1) mc' mc ms' ms) := by
  intro p e s m args below meth c V Ret L st h u1 u2 K ho hK H locs ls hP hS hlr
  dsimp only [ao_inv] at ho
  split at ho
  · rename_i as rest hsp
    obtain ⟨⟨hrest, hc1, hc2⟩, ho⟩ := ax_bif3 ho
    obtain ⟨hrc, hM⟩ := ax_rc_use ho
    obtain ⟨bs, h1, h2, h3⟩ := ax_sp_eq _ _ _ _ _ hsp
    rw [List.append_nil] at h1
    subst h1
    obtain ⟨a, As, rfl, hsa⟩ := hrc.resolve_left (by omega)
    obtain ⟨ha, hs, -⟩ := ax_s_lt hsa (by omega)
    have hpre := ax_PreS (as := .ref a :: As) V hP hS
    have hvr := ax_vr hP ha
    have hmap : (Value.ref a :: As).map (ax_v g) = .ref (g.2.1 + a) :: As.map (ax_v g) := by rw [List.map_cons, hvr]
    rw [hmap] at hpre
    have ht := V.2.2.2.2.2.2.2.1
    refine ax_call (mc' := mc') (ms' := ms') (rest := rest.map (ax_v g)) (va_runI (b := g.2.1 + a) (As := As.map (ax_v g)) (n := n) ⟨V.1, V.2.1, V.2.2.2.2.1, V.2.2.2.2.2.1, ht⟩ hM (cwI n ht (ax_gi (ax_pre hcode)) rfl rfl rfl (ht _ hi) (ht _ hl) (ht _ him) hnm hdd (ax_rmL hdl hn' mc' ms' mc ms)) hpre rfl (by rw [List.length_map]; simpa using h2) hlr.1 (by show List.map (ax_v g) st = _; rw [h3, List.map_append, List.map_reverse, hmap, List.reverse_cons, List.append_assoc]; rfl) (by show 0 + _ ≤ 8; rw [Nat.zero_add, ax_sum]; exact hrest) hd ⟨hc1, hc2⟩) hS ?_
    intro v h' H1 locs1 hR hP1 hS1
    have := hK _ (ax_rk_use hR) H1 locs1 ls hP1 hS1 hlr
    cases v <;> exact this
  · exact ho.elim
/-- a nest mate's private constructor -/
theorem ak_invIN {d' rk : Nat} (hdl : d' < d) {y : MethodName} {host : String} {cc' : ByteArray} {nL' n mc' ms' index ci : Nat} (hn' : nL' ≤ 22) (hci : ci < 11) (hl : (own, index, y, host) ∈ ax_nm) (him : Cond.instanceMethod y ∈ lw_gd) (hi : Cond.initialized y.cls ∈ lw_gd) (hcode : Cond.code y cc' nL' none ∈ lw_gd) (hnm : y.name = "<init>") (hdd : y.cls ≠ "java/lang/invoke/MethodHandle" ∧ y.cls ≠ "java/lang/invoke/VarHandle" ∧ (parseMethodDescriptor y.desc).map (fun d => d.parameters.length) = some n) (hd : decode cc pc = .ok (.invokespecial index, 3)) : ax_ok g cc nL ret own nm d mc ms pc (ao_inv g d' ci rk y cc' nL' none (n + 1) mc' mc ms' ms) := by
  intro p e s m args below meth c V Ret L st h u1 u2 K ho hK H locs ls hP hS hlr
  dsimp only [ao_inv] at ho
  split at ho
  · rename_i as rest hsp
    obtain ⟨⟨hrest, hc1, hc2⟩, ho⟩ := ax_bif3 ho
    obtain ⟨hrc, hM⟩ := ax_rc_use ho
    obtain ⟨bs, h1, h2, h3⟩ := ax_sp_eq _ _ _ _ _ hsp
    rw [List.append_nil] at h1
    subst h1
    obtain ⟨a, As, rfl, hsa⟩ := hrc.resolve_left (by omega)
    obtain ⟨ha, hs, -⟩ := ax_s_lt hsa (by omega)
    have hpre := ax_PreS (as := .ref a :: As) V hP hS
    have hvr := ax_vr hP ha
    have hmap : (Value.ref a :: As).map (ax_v g) = .ref (g.2.1 + a) :: As.map (ax_v g) := by rw [List.map_cons, hvr]
    rw [hmap] at hpre
    have ht := V.2.2.2.2.2.2.2.1
    have hnw : va_Nw (.methodLinkNest own index y host) s := V.2.2.2.2.2.2.2.2.2.2.2.2.2.2.2.2.2.1 _ hl
    refine ax_call (mc' := mc') (ms' := ms') (rest := rest.map (ax_v g)) (va_runIN (b := g.2.1 + a) (As := As.map (ax_v g)) (n := n) ⟨V.1, V.2.1, V.2.2.2.2.1, V.2.2.2.2.2.1, ht⟩ hM ⟨va_cnB n ht (ax_gi (ax_pre hcode)) rfl rfl rfl hnw (ht _ hi) hdd (ax_rmL hdl hn' mc' ms' mc ms), hnm, ht _ him⟩ hpre rfl (by rw [List.length_map]; simpa using h2) hlr.1 (by show List.map (ax_v g) st = _; rw [h3, List.map_append, List.map_reverse, hmap, List.reverse_cons, List.append_assoc]; rfl) (by show 0 + _ ≤ 8; rw [Nat.zero_add, ax_sum]; exact hrest) hd ⟨hc1, hc2⟩) hS ?_
    intro v h' H1 locs1 hR hP1 hS1
    have := hK _ (ax_rk_use hR) H1 locs1 ls hP1 hS1 hlr
    cases v <;> exact this
  · exact ho.elim
/-! arrays -/
def ao_iald : ax_O := fun _ σ K => match σ with
  | (pc, L, st, h, u1, u2) => match st with
    | .int i :: .ref a :: r => (ax_s h a).1 = 11 ∧ vp_in i (ax_s h a).2 ∧ K (pc + 1, L, .int (ax_i h a i.toNatClampNeg) :: r, h, u1, u2)
    | _ => False
def ao_bald (kd : Nat) : ax_O := fun _ σ K => match σ with
  | (pc, L, st, h, u1, u2) => match st with
    | .int i :: .ref a :: r => (ax_s h a).1 = kd ∧ vp_in i (ax_s h a).2 ∧ K (pc + 1, L, .int (ax_i h a i.toNatClampNeg) :: r, h, u1, u2)
    | _ => False
def ao_lald : ax_O := fun _ σ K => match σ with
  | (pc, L, st, h, u1, u2) => match st with
    | .int i :: .ref a :: r => (ax_s h a).1 = 14 ∧ vp_in i (ax_s h a).2 ∧ K (pc + 1, L, .long (ax_l h a i.toNatClampNeg) :: r, h, u1, u2)
    | _ => False
def ao_aald (kd : Nat) : ax_O := fun _ σ K => match σ with
  | (pc, L, st, h, u1, u2) => match st with
    | .int i :: .ref a :: r => (ax_s h a).1 = kd ∧ vp_in i (ax_s h a).2 ∧ (∀ b, ax_r h a i.toNatClampNeg = some b → K (pc + 1, L, .ref b :: r, h, u1, u2)) ∧ (ax_r h a i.toNatClampNeg = none → K (pc + 1, L, .null :: r, h, u1, u2))
    | _ => False
def ao_aaln (kd : Nat) : ax_O := fun _ σ K => match σ with
  | (pc, L, st, h, u1, u2) => match st with
    | .int i :: .ref a :: r => (ax_s h a).1 = kd ∧ vp_in i (ax_s h a).2 ∧ ∃ b, ax_r h a i.toNatClampNeg = some b ∧ K (pc + 1, L, .ref b :: r, h, u1, u2)
    | _ => False
def ao_alen (kd : Nat) : ax_O := fun _ σ K => match σ with
  | (pc, L, st, h, u1, u2) => match st with
    | .ref a :: r => (ax_s h a).1 = kd ∧ K (pc + 1, L, .int (Int32.ofNat (ax_s h a).2) :: r, h, u1, u2)
    | _ => False
theorem ax_arr {h : ax_H} {H : Heap} {a kd : Nat} (hP : ax_P g h H) (hs : (ax_s h a).1 = kd) (h1 : ¬ kd < 11) (h2 : kd < 99) : a < h.1 ∧ (ax_w g h)[a]? = some (g.2.1 + a, .inl (g.2.2.2.2 kd, (ax_s h a).2, ax_c g h a kd)) ∧ ax_v g (.ref a) = .ref (g.2.1 + a) ∧ (h.2.1 a).1 = kd ∧ (h.2.1 a).2 = (ax_s h a).2 := by
  obtain ⟨ha, hs', hl⟩ := ax_s_lt hs h2
  exact ⟨ha, (ax_w_get ha).trans (by rw [ax_e_arr hs' h1, hl]), ax_vr hP ha, hs', hl.symm⟩
theorem ak_iald (hd : decode cc pc = .ok (.iaload, 1)) : ax_ok g cc nL ret own nm d mc ms pc ao_iald := by
  intro p e s m args below meth c V Ret L st h u1 u2 K ho hK H locs ls hP hS hl
  dsimp only [ao_iald] at ho
  split at ho
  · rename_i i a r
    obtain ⟨ha, hw, hv, -, -⟩ := ax_arr hP ho.1 (by decide) (by decide)
    show W _ _ _ _ _ _ _ _ _ _ _ _ _ _ _ (F0 m pc ls (Value.int i :: ax_v g (.ref a) :: r.map (ax_v g)))
    rw [hv]
    exact va_iald V.1 V.2.1 V.2.2.2.2.2.2.2.2.1 hP.1 a 0 hw rfl ho.2.1 hd (hK _ ho.2.2 H locs ls hP hS hl)
  · exact ho.elim
theorem ak_bald (hd : decode cc pc = .ok (.baload, 1)) : ax_ok g cc nL ret own nm d mc ms pc (ao_bald 12) := by
  intro p e s m args below meth c V Ret L st h u1 u2 K ho hK H locs ls hP hS hl
  dsimp only [ao_bald] at ho
  split at ho
  · rename_i i a r
    obtain ⟨ha, hw, hv, -, -⟩ := ax_arr hP ho.1 (by decide) (by decide)
    show W _ _ _ _ _ _ _ _ _ _ _ _ _ _ _ (F0 m pc ls (Value.int i :: ax_v g (.ref a) :: r.map (ax_v g)))
    rw [hv]
    exact va_bald V.1 V.2.1 V.2.2.2.2.2.2.2.2.1 hP.1 a 1 hw rfl ho.2.1 hd (hK _ ho.2.2 H locs ls hP hS hl)
  · exact ho.elim
theorem ak_zald (hd : decode cc pc = .ok (.baload, 1)) : ax_ok g cc nL ret own nm d mc ms pc (ao_bald 13) := by
  intro p e s m args below meth c V Ret L st h u1 u2 K ho hK H locs ls hP hS hl
  dsimp only [ao_bald] at ho
  split at ho
  · rename_i i a r
    obtain ⟨ha, hw, hv, -, -⟩ := ax_arr hP ho.1 (by decide) (by decide)
    show W _ _ _ _ _ _ _ _ _ _ _ _ _ _ _ (F0 m pc ls (Value.int i :: ax_v g (.ref a) :: r.map (ax_v g)))
    rw [hv]
    exact va_zald V.1 V.2.1 V.2.2.2.2.2.2.2.2.1 hP.1 a 2 hw rfl ho.2.1 hd (hK _ ho.2.2 H locs ls hP hS hl)
  · exact ho.elim
theorem ak_lald (hd : decode cc pc = .ok (.laload, 1)) : ax_ok g cc nL ret own nm d mc ms pc ao_lald := by
  intro p e s m args below meth c V Ret L st h u1 u2 K ho hK H locs ls hP hS hl
  dsimp only [ao_lald] at ho
  split at ho
  · rename_i i a r
    obtain ⟨ha, hw, hv, -, -⟩ := ax_arr hP ho.1 (by decide) (by decide)
    show W _ _ _ _ _ _ _ _ _ _ _ _ _ _ _ (F0 m pc ls (Value.int i :: ax_v g (.ref a) :: r.map (ax_v g)))
    rw [hv]
    exact va_lald V.1 V.2.1 V.2.2.2.2.2.2.2.2.1 hP.1 a 3 hw rfl ho.2.1 hd (hK _ ho.2.2 H locs ls hP hS hl)
  · exact ho.elim
theorem ak_aald {kd t0 : Nat} {C : String} (h1 : ¬ kd < 15) (h2 : kd < 99) (ht : (ax_t g)[t0]? = some (g.2.2.2.2 kd, .object C)) (hd : decode cc pc = .ok (.aaload, 1)) : ax_ok g cc nL ret own nm d mc ms pc (ao_aald kd) := by
  intro p e s m args below meth c V Ret L st h u1 u2 K ho hK H locs ls hP hS hl
  dsimp only [ao_aald] at ho
  split at ho
  · rename_i i a r
    obtain ⟨ha, hw, hv, -, -⟩ := ax_arr hP ho.1 (by omega) h2
    show W _ _ _ _ _ _ _ _ _ _ _ _ _ _ _ (F0 m pc ls (Value.int i :: ax_v g (.ref a) :: r.map (ax_v g)))
    rw [hv]
    have hc : ax_c g h a kd = .inr (.inr (.inr (.inr (fun j => (ax_r h a j).map (ax_ad g))))) := by unfold ax_c; rw [if_neg (by omega), if_neg (by omega)]
    rw [hc] at hw
    refine va_aldq V.1 V.2.1 V.2.2.2.2.2.2.2.2.1 hP.1 a t0 hw ht ho.2.1 hd ?_
    cases hr : ax_r h a i.toNatClampNeg with
    | none => exact hK _ (ho.2.2.2 hr) H locs ls hP hS hl
    | some b => exact hK _ (ho.2.2.1 b hr) H locs ls hP hS hl
  · exact ho.elim
theorem ak_aaln {kd t0 : Nat} {C : String} (h1 : ¬ kd < 15) (h2 : kd < 99) (ht : (ax_t g)[t0]? = some (g.2.2.2.2 kd, .object C)) (hd : decode cc pc = .ok (.aaload, 1)) : ax_ok g cc nL ret own nm d mc ms pc (ao_aaln kd) := by
  intro p e s m args below meth c V Ret L st h u1 u2 K ho hK H locs ls hP hS hl
  dsimp only [ao_aaln] at ho
  split at ho
  · rename_i i a r
    obtain ⟨ho1, hin, b, hr, ho⟩ := ho
    refine ak_aald h1 h2 ht hd p e s m args below meth c V Ret L _ h u1 u2 K ?_ hK H locs ls hP hS hl
    exact ⟨ho1, hin, fun b' hb' => by rw [hr] at hb'; cases hb'; exact ho, fun hn => by rw [hr] at hn; cases hn⟩
  · exact ho.elim
theorem ak_alen {kd t0 : Nat} {ty : FieldType} (h1 : ¬ kd < 11) (h2 : kd < 99) (ht : (ax_t g)[t0]? = some (g.2.2.2.2 kd, ty)) (hd : decode cc pc = .ok (.arraylength, 1)) : ax_ok g cc nL ret own nm d mc ms pc (ao_alen kd) := by
  intro p e s m args below meth c V Ret L st h u1 u2 K ho hK H locs ls hP hS hl
  dsimp only [ao_alen] at ho
  split at ho
  · rename_i a r
    obtain ⟨ha, hw, hv, -, -⟩ := ax_arr hP ho.1 h1 h2
    show W _ _ _ _ _ _ _ _ _ _ _ _ _ _ _ (F0 m pc ls (ax_v g (.ref a) :: r.map (ax_v g)))
    rw [hv]
    exact va_alen V.1 V.2.1 V.2.2.2.2.2.2.2.2.1 hP.1 a t0 hw ht rfl hd (hK _ ho.2 H locs ls hP hS hl)
  · exact ho.elim
def ao_iast : ax_O := fun _ σ K => match σ with
  | (pc, L, st, h, u1, u2) => match st with
    | .int x :: .int i :: .ref a :: r => (ax_s h a).1 = 11 ∧ vp_in i (ax_s h a).2 ∧ K (pc + 1, L, r, ax_pi h a i.toNatClampNeg x, u1, u2)
    | _ => False
def ao_bast : ax_O := fun _ σ K => match σ with
  | (pc, L, st, h, u1, u2) => match st with
    | .int x :: .int i :: .ref a :: r => (ax_s h a).1 = 12 ∧ vp_in i (ax_s h a).2 ∧ K (pc + 1, L, r, ax_pi h a i.toNatClampNeg x.toInt8.toInt32, u1, u2)
    | _ => False
def ao_last : ax_O := fun _ σ K => match σ with
  | (pc, L, st, h, u1, u2) => match st with
    | .long x :: .int i :: .ref a :: r => (ax_s h a).1 = 14 ∧ vp_in i (ax_s h a).2 ∧ K (pc + 1, L, r, ax_pl h a i.toNatClampNeg x, u1, u2)
    | _ => False
theorem ax_in_size {i : Int32} {n : Nat} {cA : ClassId} {f : Nat → Value} (h : vp_in i n) : ¬ (i < 0 ∨ (arrV cA n f).slots.size ≤ i.toNatClampNeg) := by rw [arrV_size]; exact h
theorem ak_iast (hd : decode cc pc = .ok (.iastore, 1)) : ax_ok g cc nL ret own nm d mc ms pc ao_iast := by
  intro p e s m args below meth c V Ret L st h u1 u2 K ho hK H locs ls hP hS hl
  dsimp only [ao_iast] at ho
  split at ho
  · rename_i x i a r
    obtain ⟨ha, hw, hv, hk, hln⟩ := ax_arr hP ho.1 (by decide) (by decide)
    show W _ _ _ _ _ _ _ _ _ _ _ _ _ _ _ (F0 m pc ls (Value.int x :: .int i :: ax_v g (.ref a) :: r.map (ax_v g)))
    rw [hv]
    have hat : H[g.2.1 + a]? = some (arrV (g.2.2.2.2 11) (ax_s h a).2 (fun j => .int (ax_i h a j))) := hP.1 a _ hw
    refine W.iast V.1 V.2.1 hat ((V.2.2.2.2.2.2.2.2.1.2 0 _ rfl).1 _ _) (fun q => by cases q) (ax_in_size ho.2.1) rfl rfl hd fun H1 e1 z oq => ?_
    refine hK _ ho.2.2 H1 _ ls (ax_P_set hP rfl (fun b hb => ax_e_cong rfl (ax_u_ne hb) rfl rfl) ha ?_ z oq) (hS.put z oq (Nat.le_add_right _ _)) hl
    rw [ax_e_arr (h := ax_pi h a i.toNatClampNeg x) (kd := 11) hk (by decide)]
    show H1[g.2.1 + a]? = some (arrV (g.2.2.2.2 11) (h.2.1 a).2 (fun j => .int (ax_u h.2.2.1 a i.toNatClampNeg x a j)))
    rw [e1, arrV_store, hln, ax_u_eq]
    congr 2
    funext q
    by_cases hq : q = i.toNatClampNeg
    · subst hq
      simp [updV]
    · simp [updV, hq, ax_i]
  · exact ho.elim
theorem ak_bast (hd : decode cc pc = .ok (.bastore, 1)) : ax_ok g cc nL ret own nm d mc ms pc ao_bast := by
  intro p e s m args below meth c V Ret L st h u1 u2 K ho hK H locs ls hP hS hl
  dsimp only [ao_bast] at ho
  split at ho
  · rename_i x i a r
    obtain ⟨ha, hw, hv, hk, hln⟩ := ax_arr hP ho.1 (by decide) (by decide)
    show W _ _ _ _ _ _ _ _ _ _ _ _ _ _ _ (F0 m pc ls (Value.int x :: .int i :: ax_v g (.ref a) :: r.map (ax_v g)))
    rw [hv]
    have hat : H[g.2.1 + a]? = some (arrV (g.2.2.2.2 12) (ax_s h a).2 (fun j => .int (ax_i h a j))) := hP.1 a _ hw
    refine W.bast V.1 V.2.1 hat ((V.2.2.2.2.2.2.2.2.1.2 1 _ rfl).1 _ _) (fun q => by cases q) (ax_in_size ho.2.1) rfl rfl hd fun H1 e1 z oq => ?_
    refine hK _ ho.2.2 H1 _ ls (ax_P_set hP rfl (fun b hb => ax_e_cong rfl (ax_u_ne hb) rfl rfl) ha ?_ z oq) (hS.put z oq (Nat.le_add_right _ _)) hl
    rw [ax_e_arr (h := ax_pi h a i.toNatClampNeg x.toInt8.toInt32) (kd := 12) hk (by decide)]
    show H1[g.2.1 + a]? = some (arrV (g.2.2.2.2 12) (h.2.1 a).2 (fun j => .int (ax_u h.2.2.1 a i.toNatClampNeg x.toInt8.toInt32 a j)))
    rw [e1, arrV_store, hln, ax_u_eq]
    congr 2
    funext q
    by_cases hq : q = i.toNatClampNeg
    · subst hq
      simp [updV]
      rfl
    · simp [updV, hq, ax_i]
  · exact ho.elim
theorem ak_last (hd : decode cc pc = .ok (.lastore, 1)) : ax_ok g cc nL ret own nm d mc ms pc ao_last := by
  intro p e s m args below meth c V Ret L st h u1 u2 K ho hK H locs ls hP hS hl
  dsimp only [ao_last] at ho
  split at ho
  · rename_i x i a r
    obtain ⟨ha, hw, hv, hk, hln⟩ := ax_arr hP ho.1 (by decide) (by decide)
    show W _ _ _ _ _ _ _ _ _ _ _ _ _ _ _ (F0 m pc ls (Value.long x :: .int i :: ax_v g (.ref a) :: r.map (ax_v g)))
    rw [hv]
    have hat : H[g.2.1 + a]? = some (arrV (g.2.2.2.2 14) (ax_s h a).2 (fun j => .long (ax_l h a j))) := hP.1 a _ hw
    refine W.last V.1 V.2.1 hat ((V.2.2.2.2.2.2.2.2.1.2 3 _ rfl).1 _ _) (fun q => by cases q) (ax_in_size ho.2.1) rfl rfl hd fun H1 e1 z oq => ?_
    refine hK _ ho.2.2 H1 _ ls (ax_P_set hP rfl (fun b hb => ax_e_cong rfl rfl (ax_u_ne hb) rfl) ha ?_ z oq) (hS.put z oq (Nat.le_add_right _ _)) hl
    rw [ax_e_arr (h := ax_pl h a i.toNatClampNeg x) (kd := 14) hk (by decide)]
    show H1[g.2.1 + a]? = some (arrV (g.2.2.2.2 14) (h.2.1 a).2 (fun j => .long (ax_u h.2.2.2.1 a i.toNatClampNeg x a j)))
    rw [e1, arrV_store, hln, ax_u_eq]
    congr 2
    funext q
    by_cases hq : q = i.toNatClampNeg
    · subst hq
      simp [updV]
    · simp [updV, hq, ax_l]
  · exact ho.elim
/-! the tree of a code -/
def ax_nd (k : Nat) (a b : Nat → ax_O) : Nat → ax_O := fun pc => bif Nat.ble pc k then a pc else b pc
def ax_lf (k : Nat) (o : ax_O) : Nat → ax_O := fun pc => bif Nat.beq pc k then o else ao_no
theorem ax_nd_ok {k : Nat} {a b : Nat → ax_O} (ha : ∀ pc, ax_ok g cc nL ret own nm d mc ms pc (a pc)) (hb : ∀ pc, ax_ok g cc nL ret own nm d mc ms pc (b pc)) : ∀ pc, ax_ok g cc nL ret own nm d mc ms pc (ax_nd k a b pc) := by
  intro pc
  unfold ax_nd
  cases Nat.ble pc k
  · exact hb pc
  · exact ha pc
theorem ax_lf_ok {k : Nat} {o : ax_O} (ho : ax_ok g cc nL ret own nm d mc ms k o) : ∀ pc, ax_ok g cc nL ret own nm d mc ms pc (ax_lf k o pc) := by
  intro pc
  unfold ax_lf
  cases h : Nat.beq pc k
  · exact ak_no
  · rw [Nat.eq_of_beq_eq_true h]
    exact ho
/-- switches -/
def ax_sw (x : Int32) (K : Nat → Prop) (dflt : Nat) : List (Int32 × Nat) → Prop
  | [] => K dflt
  | (v, t) :: r => (x = v → K t) ∧ (¬ x = v → ax_sw x K dflt r)
def ao_sw (ts : List (Int32 × Nat)) (dflt : Nat) : ax_O := fun _ σ K => match σ with
  | (pc, L, st, h, u1, u2) => match st with
    | .int x :: r => ax_sw x (fun t => K (t, L, r, h, u1, u2)) dflt ts
    | _ => False
end
section
variable {g : ax_G} {cc : ByteArray} {nL : Nat} {ret : Option FieldType} {own nm : String} {d mc ms pc : Nat}
/-- the table of a switch out of the listing: each value with its target -/
def ax_swt (pc : Nat) (ps : List (Int × Int)) : List (Int32 × Nat) := ps.map fun q => (Int32.ofInt q.1, ((pc : Int) + q.2).toNat)
theorem ax_i32 {x : Int32} {z : Int} (h1 : -2147483648 ≤ z) (h2 : z < 2147483648) : x = Int32.ofInt z ↔ x.toInt = z := by
  constructor
  · intro h
    rw [h]
    exact Int32.toInt_ofInt_of_le h1 (by omega)
  · intro h
    rw [← h]
    exact (Int32.ofInt_toInt x).symm
theorem ak_table {dflt lo hi : Int} {offs : Array Int} {len dt : Nat} {ts : List (Int32 × Nat)} (hd : decode cc pc = .ok (.tableswitch dflt lo hi offs, len)) (h1 : -2147483648 ≤ lo) (h2 : hi < 2147483648) (hlen : (offs.size : Int) = hi - lo + 1) (hdt : (pc : Int) + dflt = (dt : Int)) (ht : ∀ k, k < offs.size → ∃ (off : Int) (tgt : Nat), offs[k]? = some off ∧ (pc : Int) + off = (tgt : Int) ∧ ts[k]? = some (Int32.ofInt (lo + k), tgt)) (htl : ts.length = offs.size) : ax_ok g cc nL ret own nm d mc ms pc (ao_sw ts dt) := by
  intro p e s m args below meth c V Ret L st h u1 u2 K ho hK H locs ls hP hS hl
  dsimp only [ao_sw] at ho
  split at ho
  · rename_i x r
    have key : ∀ (us : List (Int32 × Nat)) (Kt : Nat → Prop), ax_sw x Kt dt us → (∃ (j t : Nat), us[j]? = some (x, t) ∧ Kt t) ∨ ((∀ (j : Nat) (q : Int32 × Nat), us[j]? = some q → ¬ x = q.1) ∧ Kt dt) := by
      intro us Kt
      induction us with
      | nil => intro h; exact Or.inr ⟨fun j q hj => by simp at hj, h⟩
      | cons q us ih =>
        intro h
        obtain ⟨v, t⟩ := q
        by_cases hx : x = v
        · subst hx
          exact Or.inl ⟨0, t, rfl, h.1 rfl⟩
        · rcases ih (h.2 hx) with ⟨j, t', hj, hk⟩ | ⟨hn, hk⟩
          · exact Or.inl ⟨j + 1, t', by simpa using hj, hk⟩
          · refine Or.inr ⟨fun j q hj => ?_, hk⟩
            cases j with
            | zero => simp at hj; rw [← hj]; exact hx
            | succ j => exact hn j q (by simpa using hj)
    have hb : ∀ k, k < offs.size → -2147483648 ≤ lo + (k : Int) ∧ lo + (k : Int) < 2147483648 := fun k hk => by omega
    rcases key ts _ ho with ⟨j, t, hj, hk⟩ | ⟨hn, hk⟩
    · have hjl : j < offs.size := by rw [← htl]; exact (List.getElem?_eq_some_iff.mp hj).1
      obtain ⟨off, tgt, ho1, ho2, ho3⟩ := ht j hjl
      rw [hj] at ho3
      have he : x = Int32.ofInt (lo + j) ∧ t = tgt := by
        have := Option.some.inj ho3
        exact ⟨congrArg Prod.fst this, congrArg Prod.snd this⟩
      have hx := (ax_i32 (hb j hjl).1 (hb j hjl).2).mp he.1
      refine lv_tableIn (off := off) (tgt := t) V.1 V.2.1 hd (by omega) (by omega) ?_ (by rw [he.2]; exact ho2) (hK _ hk H locs ls hP hS hl)
      rw [hx, show (lo + (j : Int) - lo).toNat = j by omega]
      exact ho1
    · refine lv_tableOut V.1 V.2.1 hd ?_ hdt (hK _ hk H locs ls hP hS hl)
      by_cases h3 : x.toInt < lo
      · exact Or.inl h3
      · by_cases h4 : hi < x.toInt
        · exact Or.inr h4
        · exfalso
          have hkl : (x.toInt - lo).toNat < offs.size := by omega
          obtain ⟨off, tgt, -, -, ho3⟩ := ht _ hkl
          refine hn _ _ ho3 ((ax_i32 (hb _ hkl).1 (hb _ hkl).2).mpr ?_)
          omega
  · exact ho.elim
end
section
variable {g : ax_G} {cc : ByteArray} {nL : Nat} {ret : Option FieldType} {own nm : String} {d mc ms pc : Nat}
def ax_swc (pc : Nat) (lo : Int) (offs : Array Int) (ts : List (Int32 × Nat)) : Bool := (List.range offs.size).all fun k => match offs[k]?, ts[k]? with
  | some off, some q => decide (q.1 = Int32.ofInt (lo + (k : Int))) && decide ((pc : Int) + off = (q.2 : Int))
  | _, _ => false
theorem ak_tsw {dflt lo hi : Int} {offs : Array Int} {len dt : Nat} {ts : List (Int32 × Nat)} (hd : decode cc pc = .ok (.tableswitch dflt lo hi offs, len)) (h1 : -2147483648 ≤ lo) (h2 : hi < 2147483648) (hlen : (offs.size : Int) = hi - lo + 1) (hdt : (pc : Int) + dflt = (dt : Int)) (ht : ax_swc pc lo offs ts = true) (htl : ts.length = offs.size) : ax_ok g cc nL ret own nm d mc ms pc (ao_sw ts dt) := by
  refine ak_table hd h1 h2 hlen hdt (fun k hk => ?_) htl
  have := List.all_eq_true.mp ht k (List.mem_range.mpr hk)
  split at this
  · rename_i off q h3 h4
    simp only [Bool.and_eq_true, decide_eq_true_eq] at this
    refine ⟨off, q.2, h3, this.2, ?_⟩
    rw [h4, ← this.1]
  · cases this
theorem ax_sw_off {x : Int32} {Kt : Nat → Prop} {dt : Nat} {dflt : Int} (hdt : (pc : Int) + dflt = (dt : Int)) : ∀ (ps : List (Int × Int)) (ts : List (Int32 × Nat)), ts.length = ps.length → ((ps.zip ts).all fun q => decide (q.2.1.toInt = q.1.1) && decide ((pc : Int) + q.1.2 = (q.2.2 : Int))) = true → ax_sw x Kt dt ts → ∃ (off : Int) (tgt : Nat), Op.lookupswitch.offset ps dflt x.toInt = off ∧ (pc : Int) + off = (tgt : Int) ∧ Kt tgt := by
  intro ps
  induction ps with
  | nil =>
    intro ts hl _ h
    cases ts with
    | nil => exact ⟨dflt, dt, rfl, hdt, h⟩
    | cons _ _ => cases hl
  | cons q ps ih =>
    intro ts hl hz h
    cases ts with
    | nil => cases hl
    | cons t ts =>
      obtain ⟨a, o⟩ := q
      obtain ⟨v, tg⟩ := t
      simp only [List.zip_cons_cons, List.all_cons, Bool.and_eq_true, decide_eq_true_eq] at hz
      by_cases hx : x = v
      · subst hx
        refine ⟨o, tg, ?_, hz.1.2, h.1 rfl⟩
        rw [Op.lookupswitch.offset_cons, if_pos hz.1.1.symm]
      · rw [lv_osw hx hz.1.1]
        exact ih ts (by simpa using hl) hz.2 (h.2 hx)
theorem ak_look {dflt : Int} {ps : Array (Int × Int)} {len dt : Nat} {ts : List (Int32 × Nat)} (hd : decode cc pc = .ok (.lookupswitch dflt ps, len)) (hp : (ps.toList.zip (ps.toList.drop 1)).all (fun (a, next) => a.1 < next.1) = true) (hdt : (pc : Int) + dflt = (dt : Int)) (htl : ts.length = ps.toList.length) (ht : ((ps.toList.zip ts).all fun q => decide (q.2.1.toInt = q.1.1) && decide ((pc : Int) + q.1.2 = (q.2.2 : Int))) = true) : ax_ok g cc nL ret own nm d mc ms pc (ao_sw ts dt) := by
  intro p e s m args below meth c V Ret L st h u1 u2 K ho hK H locs ls hP hS hl
  dsimp only [ao_sw] at ho
  split at ho
  · rename_i x r
    obtain ⟨off, tgt, h1, h2, h3⟩ := ax_sw_off hdt _ _ htl ht ho
    exact lv_lookup V.1 V.2.1 hd hp h1 h2 (hK _ h3 H locs ls hP hS hl)
  · exact ho.elim
/-- many steps at once: from σ to the next places that 'cut' names -/
def ax_run (tbl : Nat → ax_O) (Ret : Option Value → ax_H → Prop) (A : ax_S → Prop) (cut : Nat → Bool) : Nat → ax_S → Prop
  | 0, σ => A σ
  | n + 1, σ => bif cut σ.1 then A σ else tbl σ.1 Ret σ (ax_run tbl Ret A cut n)
def ax_HA (tbl : Nat → ax_O) (Ret : Option Value → ax_H → Prop) (A : ax_S → Prop) : Prop := ∀ (σ : ax_S) (K : ax_S → Prop), tbl σ.1 Ret σ K → (∀ σ', K σ' → A σ') → A σ
theorem ax_go {tbl : Nat → ax_O} {Ret : Option Value → ax_H → Prop} {A : ax_S → Prop} (hA : ax_HA tbl Ret A) (cut : Nat → Bool) : ∀ (n : Nat) (σ : ax_S), ax_run tbl Ret A cut n σ → A σ := by
  intro n
  induction n with
  | zero => intro σ h; exact h
  | succ n ih =>
    intro σ h
    unfold ax_run at h
    cases hc : cut σ.1 with
    | true => rw [hc] at h; exact h
    | false => rw [hc] at h; exact hA σ _ h ih
theorem ax_go1 {tbl : Nat → ax_O} {Ret : Option Value → ax_H → Prop} {A : ax_S → Prop} (hA : ax_HA tbl Ret A) (cut : Nat → Bool) (n : Nat) (σ : ax_S) (h : tbl σ.1 Ret σ (ax_run tbl Ret A cut n)) : A σ := hA σ _ h (ax_go hA cut n)
end
