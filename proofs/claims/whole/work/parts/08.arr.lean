section
variable {g : ax_G} {cc : ByteArray} {nL : Nat} {ret : Option FieldType} {own nm : String} {d mc ms pc : Nat}
/-- a method of an object -/
theorem ak_invV {y : MethodName} {cc' : ByteArray} {nL' n mc' ms' index ci N : Nat} {T : u_T} {ret' : Option FieldType} (hn' : nL' ≤ 45) (hci : ci < 11) (hcl : vwCl[ci]? = some (y.cls, T, N)) (hl : Cond.methodLink own index y ∈ lw_gd) (him : Cond.instanceMethod y ∈ lw_gd) (hsel : Cond.selects y.cls y y ∈ lw_gd) (hi : Cond.initialized y.cls ∈ lw_gd) (hcode : Cond.code y cc' nL' ret' ∈ lw_gd) (hdd : y.cls ≠ "java/lang/invoke/MethodHandle" ∧ y.cls ≠ "java/lang/invoke/VarHandle" ∧ (parseMethodDescriptor y.desc).map (fun d => d.parameters.length) = some n) (hd : decode cc pc = .ok (.invokevirtual index, 3)) : ax_ok g cc nL ret own nm d mc ms pc (ao_inv g d ci y cc' nL' ret' (n + 1) mc' mc ms' ms) := by
  intro p e s m args below meth c V Ret L st h u1 u2 K ho hK H locs ls hP hS hlr
  dsimp only [ao_inv] at ho
  split at ho
  · rename_i as rest hsp
    obtain ⟨hrc, ⟨hrest, hc1, hc2⟩, d', hdl, hM⟩ := ho
    obtain ⟨bs, h1, h2, h3⟩ := ax_sp_eq _ _ _ _ _ hsp
    rw [List.append_nil] at h1
    subst h1
    obtain ⟨a, As, rfl, hsa⟩ := hrc.resolve_left (by omega)
    obtain ⟨ha, hs, -⟩ := ax_s_lt hsa (by omega)
    have hpre := ax_PreS (as := .ref a :: As) V hP hS
    have hrecv := va_recv V.2.2.2.2.2.2.2.2.1 hP.1 hcl (q0 := a) (a := g.2.1 + a) (fs := ax_fl g h (ax_ft ci) a) ((ax_w_get ha).trans (by rw [ax_e_obj hs hci]))
    have hvr := ax_vr hP ha
    have hmap : (Value.ref a :: As).map (ax_v g) = .ref (g.2.1 + a) :: As.map (ax_v g) := by rw [List.map_cons, hvr]
    rw [hmap] at hpre
    refine ax_call (mc' := mc') (ms' := ms') (rest := rest.map (ax_v g)) (va_runV (C := y.cls) (b := g.2.1 + a) (As := As.map (ax_v g)) (n := n) ⟨V.1, V.2.1, V.2.2.2.2.1, V.2.2.2.2.2.1, V.2.2.2.2.2.2.2.1⟩ hM (cwV n V.2.2.2.2.2.2.2.1 (ax_gi ?_) rfl rfl rfl ⟨rfl, hdd⟩ (ax_rmL hdl hn' mc' ms' mc ms)) ⟨hpre.1, hrecv, hpre.2⟩ rfl (by rw [List.length_map]; simpa using h2) hlr.1 (by show List.map (ax_v g) st = _; rw [h3, List.map_append, List.map_reverse, hmap, List.reverse_cons, List.append_assoc]; rfl) (by show 0 + _ ≤ 8; rw [Nat.zero_add, ax_sum]; exact hrest) hd ⟨hc1, hc2⟩) hS ?_
    · intro w hw
      rcases List.mem_append.mp hw with hw | hw
      · simp only [List.mem_cons, List.not_mem_nil, or_false] at hw
        rcases hw with rfl | rfl | rfl | rfl
        · exact hl
        · exact him
        · exact hsel
        · exact hi
      · exact ax_pre hcode w hw
    · intro v h' H1 locs1 hR hP1 hS1
      have := hK _ hR H1 locs1 ls hP1 hS1 hlr
      cases v <;> exact this
  · exact ho.elim
/-- a constructor of an object -/
theorem ak_invI {y : MethodName} {cc' : ByteArray} {nL' n mc' ms' index ci : Nat} (hn' : nL' ≤ 45) (hci : ci < 11) (hl : Cond.methodLink own index y ∈ lw_gd) (him : Cond.instanceMethod y ∈ lw_gd) (hi : Cond.initialized y.cls ∈ lw_gd) (hcode : Cond.code y cc' nL' none ∈ lw_gd) (hnm : y.name = "<init>") (hdd : y.cls ≠ "java/lang/invoke/MethodHandle" ∧ y.cls ≠ "java/lang/invoke/VarHandle" ∧ (parseMethodDescriptor y.desc).map (fun d => d.parameters.length) = some n) (hd : decode cc pc = .ok (.invokespecial index, 3)) : ax_ok g cc nL ret own nm d mc ms pc (ao_inv g d ci y cc' nL' none (n + 1) mc' mc ms' ms) := by
  intro p e s m args below meth c V Ret L st h u1 u2 K ho hK H locs ls hP hS hlr
  dsimp only [ao_inv] at ho
  split at ho
  · rename_i as rest hsp
    obtain ⟨hrc, ⟨hrest, hc1, hc2⟩, d', hdl, hM⟩ := ho
    obtain ⟨bs, h1, h2, h3⟩ := ax_sp_eq _ _ _ _ _ hsp
    rw [List.append_nil] at h1
    subst h1
    obtain ⟨a, As, rfl, hsa⟩ := hrc.resolve_left (by omega)
    obtain ⟨ha, hs, -⟩ := ax_s_lt hsa (by omega)
    have hpre := ax_PreS (as := .ref a :: As) V hP hS
    have hvr := ax_vr hP ha
    have hmap : (Value.ref a :: As).map (ax_v g) = .ref (g.2.1 + a) :: As.map (ax_v g) := by rw [List.map_cons, hvr]
    rw [hmap] at hpre
    have ht := V.2.2.2.2.2.2.2.1
    refine ax_call (mc' := mc') (ms' := ms') (rest := rest.map (ax_v g)) (va_runI (b := g.2.1 + a) (As := As.map (ax_v g)) (n := n) ⟨V.1, V.2.1, V.2.2.2.2.1, V.2.2.2.2.2.1, ht⟩ hM (cwI n ht (ax_gi (ax_pre hcode)) rfl rfl rfl (ht _ hi) (ht _ hl) (ht _ him) hnm hdd (ax_rmL hdl hn' mc' ms' mc ms)) hpre rfl (by rw [List.length_map]; simpa using h2) hlr.1 (by show List.map (ax_v g) st = _; rw [h3, List.map_append, List.map_reverse, hmap, List.reverse_cons, List.append_assoc]; rfl) (by show 0 + _ ≤ 8; rw [Nat.zero_add, ax_sum]; exact hrest) hd ⟨hc1, hc2⟩) hS ?_
    intro v h' H1 locs1 hR hP1 hS1
    have := hK _ hR H1 locs1 ls hP1 hS1 hlr
    cases v <;> exact this
  · exact ho.elim
/-- a nest mate's private constructor -/
theorem ak_invIN {y : MethodName} {host : String} {cc' : ByteArray} {nL' n mc' ms' index ci : Nat} (hn' : nL' ≤ 45) (hci : ci < 11) (hl : Cond.methodLinkNest own index y host ∈ lw_gd) (him : Cond.instanceMethod y ∈ lw_gd) (hi : Cond.initialized y.cls ∈ lw_gd) (hcode : Cond.code y cc' nL' none ∈ lw_gd) (hnm : y.name = "<init>") (hdd : y.cls ≠ "java/lang/invoke/MethodHandle" ∧ y.cls ≠ "java/lang/invoke/VarHandle" ∧ (parseMethodDescriptor y.desc).map (fun d => d.parameters.length) = some n) (hd : decode cc pc = .ok (.invokespecial index, 3)) : ax_ok g cc nL ret own nm d mc ms pc (ao_inv g d ci y cc' nL' none (n + 1) mc' mc ms' ms) := by
  intro p e s m args below meth c V Ret L st h u1 u2 K ho hK H locs ls hP hS hlr
  dsimp only [ao_inv] at ho
  split at ho
  · rename_i as rest hsp
    obtain ⟨hrc, ⟨hrest, hc1, hc2⟩, d', hdl, hM⟩ := ho
    obtain ⟨bs, h1, h2, h3⟩ := ax_sp_eq _ _ _ _ _ hsp
    rw [List.append_nil] at h1
    subst h1
    obtain ⟨a, As, rfl, hsa⟩ := hrc.resolve_left (by omega)
    obtain ⟨ha, hs, -⟩ := ax_s_lt hsa (by omega)
    have hpre := ax_PreS (as := .ref a :: As) V hP hS
    have hvr := ax_vr hP ha
    have hmap : (Value.ref a :: As).map (ax_v g) = .ref (g.2.1 + a) :: As.map (ax_v g) := by rw [List.map_cons, hvr]
    rw [hmap] at hpre
    have ht := V.2.2.2.2.2.2.2.1
    have hnw : va_Nw (.methodLinkNest own index y host) s := va_tabs rfl rfl (ht _ hl)
    refine ax_call (mc' := mc') (ms' := ms') (rest := rest.map (ax_v g)) (va_runIN (b := g.2.1 + a) (As := As.map (ax_v g)) (n := n) ⟨V.1, V.2.1, V.2.2.2.2.1, V.2.2.2.2.2.1, ht⟩ hM ⟨va_cnB n ht (ax_gi (ax_pre hcode)) rfl rfl rfl hnw (ht _ hi) hdd (ax_rmL hdl hn' mc' ms' mc ms), hnm, ht _ him⟩ hpre rfl (by rw [List.length_map]; simpa using h2) hlr.1 (by show List.map (ax_v g) st = _; rw [h3, List.map_append, List.map_reverse, hmap, List.reverse_cons, List.append_assoc]; rfl) (by show 0 + _ ≤ 8; rw [Nat.zero_add, ax_sum]; exact hrest) hd ⟨hc1, hc2⟩) hS ?_
    intro v h' H1 locs1 hR hP1 hS1
    have := hK _ hR H1 locs1 ls hP1 hS1 hlr
    cases v <;> exact this
  · exact ho.elim
/-! arrays -/
def ao_iald : ax_O := fun _ σ K => match σ.2.2.1 with
  | .int i :: .ref a :: r => (ax_s σ.2.2.2.1 a).1 = 11 ∧ vp_in i (ax_s σ.2.2.2.1 a).2 ∧ K (σ.1 + 1, σ.2.1, .int (ax_i σ.2.2.2.1 a i.toNatClampNeg) :: r, σ.2.2.2)
  | _ => False
def ao_bald (kd : Nat) : ax_O := fun _ σ K => match σ.2.2.1 with
  | .int i :: .ref a :: r => (ax_s σ.2.2.2.1 a).1 = kd ∧ vp_in i (ax_s σ.2.2.2.1 a).2 ∧ K (σ.1 + 1, σ.2.1, .int (ax_i σ.2.2.2.1 a i.toNatClampNeg) :: r, σ.2.2.2)
  | _ => False
def ao_lald : ax_O := fun _ σ K => match σ.2.2.1 with
  | .int i :: .ref a :: r => (ax_s σ.2.2.2.1 a).1 = 14 ∧ vp_in i (ax_s σ.2.2.2.1 a).2 ∧ K (σ.1 + 1, σ.2.1, .long (ax_l σ.2.2.2.1 a i.toNatClampNeg) :: r, σ.2.2.2)
  | _ => False
def ao_aald (kd : Nat) : ax_O := fun _ σ K => match σ.2.2.1 with
  | .int i :: .ref a :: r => (ax_s σ.2.2.2.1 a).1 = kd ∧ vp_in i (ax_s σ.2.2.2.1 a).2 ∧ (∀ b, ax_r σ.2.2.2.1 a i.toNatClampNeg = some b → K (σ.1 + 1, σ.2.1, .ref b :: r, σ.2.2.2)) ∧ (ax_r σ.2.2.2.1 a i.toNatClampNeg = none → K (σ.1 + 1, σ.2.1, .null :: r, σ.2.2.2))
  | _ => False
def ao_alen (kd : Nat) : ax_O := fun _ σ K => match σ.2.2.1 with
  | .ref a :: r => (ax_s σ.2.2.2.1 a).1 = kd ∧ K (σ.1 + 1, σ.2.1, .int (Int32.ofNat (ax_s σ.2.2.2.1 a).2) :: r, σ.2.2.2)
  | _ => False
theorem ax_arr {h : ax_H} {H : Heap} {a kd : Nat} (hP : ax_P g h H) (hs : (ax_s h a).1 = kd) (h1 : ¬ kd < 11) (h2 : kd < 99) : a < h.1 ∧ (ax_w g h)[a]? = some (g.2.1 + a, .inl (g.2.2.2.2 kd, (ax_s h a).2, ax_c g h a kd)) ∧ ax_v g (.ref a) = .ref (g.2.1 + a) ∧ (h.2.1 a).1 = kd ∧ (h.2.1 a).2 = (ax_s h a).2 := by
  obtain ⟨ha, hs', hl⟩ := ax_s_lt hs h2
  exact ⟨ha, (ax_w_get ha).trans (by rw [ax_e_arr hs' h1, hl]), ax_vr hP ha, hs', hl.symm⟩
theorem ak_iald (hd : decode cc pc = .ok (.iaload, 1)) : ax_ok g cc nL ret own nm d mc ms pc ao_iald := by
  intro p e s m args below meth c V Ret L st h u1 u2 K ho hK H locs ls hP hS hl
  dsimp only [ao_iald] at ho
  split at ho
  · rename_i i a r
    obtain ⟨ha, hw, hv, -, -⟩ := ax_arr hP ho.1 (by decide) (by decide)
    show W _ _ _ _ _ _ _ _ _ _ _ _ _ _ _ (F0 m pc ls (Value.int i :: ax_v g (.ref a) :: r.map (ax_v g)))
    rw [hv]
    exact va_iald V.1 V.2.1 V.2.2.2.2.2.2.2.2.1 hP.1 a 0 hw rfl ho.2.1 hd (hK _ ho.2.2 H locs ls hP hS hl)
  · exact ho.elim
theorem ak_bald (hd : decode cc pc = .ok (.baload, 1)) : ax_ok g cc nL ret own nm d mc ms pc (ao_bald 12) := by
  intro p e s m args below meth c V Ret L st h u1 u2 K ho hK H locs ls hP hS hl
  dsimp only [ao_bald] at ho
  split at ho
  · rename_i i a r
    obtain ⟨ha, hw, hv, -, -⟩ := ax_arr hP ho.1 (by decide) (by decide)
    show W _ _ _ _ _ _ _ _ _ _ _ _ _ _ _ (F0 m pc ls (Value.int i :: ax_v g (.ref a) :: r.map (ax_v g)))
    rw [hv]
    exact va_bald V.1 V.2.1 V.2.2.2.2.2.2.2.2.1 hP.1 a 1 hw rfl ho.2.1 hd (hK _ ho.2.2 H locs ls hP hS hl)
  · exact ho.elim
theorem ak_zald (hd : decode cc pc = .ok (.baload, 1)) : ax_ok g cc nL ret own nm d mc ms pc (ao_bald 13) := by
  intro p e s m args below meth c V Ret L st h u1 u2 K ho hK H locs ls hP hS hl
  dsimp only [ao_bald] at ho
  split at ho
  · rename_i i a r
    obtain ⟨ha, hw, hv, -, -⟩ := ax_arr hP ho.1 (by decide) (by decide)
    show W _ _ _ _ _ _ _ _ _ _ _ _ _ _ _ (F0 m pc ls (Value.int i :: ax_v g (.ref a) :: r.map (ax_v g)))
    rw [hv]
    exact va_zald V.1 V.2.1 V.2.2.2.2.2.2.2.2.1 hP.1 a 2 hw rfl ho.2.1 hd (hK _ ho.2.2 H locs ls hP hS hl)
  · exact ho.elim
theorem ak_lald (hd : decode cc pc = .ok (.laload, 1)) : ax_ok g cc nL ret own nm d mc ms pc ao_lald := by
  intro p e s m args below meth c V Ret L st h u1 u2 K ho hK H locs ls hP hS hl
  dsimp only [ao_lald] at ho
  split at ho
  · rename_i i a r
    obtain ⟨ha, hw, hv, -, -⟩ := ax_arr hP ho.1 (by decide) (by decide)
    show W _ _ _ _ _ _ _ _ _ _ _ _ _ _ _ (F0 m pc ls (Value.int i :: ax_v g (.ref a) :: r.map (ax_v g)))
    rw [hv]
    exact va_lald V.1 V.2.1 V.2.2.2.2.2.2.2.2.1 hP.1 a 3 hw rfl ho.2.1 hd (hK _ ho.2.2 H locs ls hP hS hl)
  · exact ho.elim
theorem ak_aald {kd t0 : Nat} {C : String} (h1 : ¬ kd < 15) (h2 : kd < 99) (ht : (ax_t g)[t0]? = some (g.2.2.2.2 kd, .object C)) (hd : decode cc pc = .ok (.aaload, 1)) : ax_ok g cc nL ret own nm d mc ms pc (ao_aald kd) := by
  intro p e s m args below meth c V Ret L st h u1 u2 K ho hK H locs ls hP hS hl
  dsimp only [ao_aald] at ho
  split at ho
  · rename_i i a r
    obtain ⟨ha, hw, hv, -, -⟩ := ax_arr hP ho.1 (by omega) h2
    show W _ _ _ _ _ _ _ _ _ _ _ _ _ _ _ (F0 m pc ls (Value.int i :: ax_v g (.ref a) :: r.map (ax_v g)))
    rw [hv]
    have hc : ax_c g h a kd = .inr (.inr (.inr (.inr (fun j => (ax_r h a j).map (ax_ad g))))) := by unfold ax_c; rw [if_neg (by omega), if_neg (by omega)]
    rw [hc] at hw
    refine va_aldq V.1 V.2.1 V.2.2.2.2.2.2.2.2.1 hP.1 a t0 hw ht ho.2.1 hd ?_
    cases hr : ax_r h a i.toNatClampNeg with
    | none => exact hK _ (ho.2.2.2 hr) H locs ls hP hS hl
    | some b => exact hK _ (ho.2.2.1 b hr) H locs ls hP hS hl
  · exact ho.elim
theorem ak_alen {kd t0 : Nat} {ty : FieldType} (h1 : ¬ kd < 11) (h2 : kd < 99) (ht : (ax_t g)[t0]? = some (g.2.2.2.2 kd, ty)) (hd : decode cc pc = .ok (.arraylength, 1)) : ax_ok g cc nL ret own nm d mc ms pc (ao_alen kd) := by
  intro p e s m args below meth c V Ret L st h u1 u2 K ho hK H locs ls hP hS hl
  dsimp only [ao_alen] at ho
  split at ho
  · rename_i a r
    obtain ⟨ha, hw, hv, -, -⟩ := ax_arr hP ho.1 h1 h2
    show W _ _ _ _ _ _ _ _ _ _ _ _ _ _ _ (F0 m pc ls (ax_v g (.ref a) :: r.map (ax_v g)))
    rw [hv]
    exact va_alen V.1 V.2.1 V.2.2.2.2.2.2.2.2.1 hP.1 a t0 hw ht rfl hd (hK _ ho.2 H locs ls hP hS hl)
  · exact ho.elim
def ao_iast : ax_O := fun _ σ K => match σ.2.2.1 with
  | .int x :: .int i :: .ref a :: r => (ax_s σ.2.2.2.1 a).1 = 11 ∧ vp_in i (ax_s σ.2.2.2.1 a).2 ∧ K (σ.1 + 1, σ.2.1, r, ax_pi σ.2.2.2.1 a i.toNatClampNeg x, σ.2.2.2.2)
  | _ => False
def ao_bast : ax_O := fun _ σ K => match σ.2.2.1 with
  | .int x :: .int i :: .ref a :: r => (ax_s σ.2.2.2.1 a).1 = 12 ∧ vp_in i (ax_s σ.2.2.2.1 a).2 ∧ K (σ.1 + 1, σ.2.1, r, ax_pi σ.2.2.2.1 a i.toNatClampNeg x.toInt8.toInt32, σ.2.2.2.2)
  | _ => False
def ao_last : ax_O := fun _ σ K => match σ.2.2.1 with
  | .long x :: .int i :: .ref a :: r => (ax_s σ.2.2.2.1 a).1 = 14 ∧ vp_in i (ax_s σ.2.2.2.1 a).2 ∧ K (σ.1 + 1, σ.2.1, r, ax_pl σ.2.2.2.1 a i.toNatClampNeg x, σ.2.2.2.2)
  | _ => False
theorem ax_in_size {i : Int32} {n : Nat} {cA : ClassId} {f : Nat → Value} (h : vp_in i n) : ¬ (i < 0 ∨ (arrV cA n f).slots.size ≤ i.toNatClampNeg) := by rw [arrV_size]; exact h
theorem ak_iast (hd : decode cc pc = .ok (.iastore, 1)) : ax_ok g cc nL ret own nm d mc ms pc ao_iast := by
  intro p e s m args below meth c V Ret L st h u1 u2 K ho hK H locs ls hP hS hl
  dsimp only [ao_iast] at ho
  split at ho
  · rename_i x i a r
    obtain ⟨ha, hw, hv, hk, hln⟩ := ax_arr hP ho.1 (by decide) (by decide)
    show W _ _ _ _ _ _ _ _ _ _ _ _ _ _ _ (F0 m pc ls (Value.int x :: .int i :: ax_v g (.ref a) :: r.map (ax_v g)))
    rw [hv]
    have hat : H[g.2.1 + a]? = some (arrV (g.2.2.2.2 11) (ax_s h a).2 (fun j => .int (ax_i h a j))) := hP.1 a _ hw
    refine W.iast V.1 V.2.1 hat ((V.2.2.2.2.2.2.2.2.1.2 0 _ rfl).1 _ _) (fun q => by cases q) (ax_in_size ho.2.1) rfl rfl hd fun H1 e1 z oq => ?_
    refine hK _ ho.2.2 H1 _ ls (ax_P_set hP rfl (fun b hb => ax_e_cong rfl (ax_u_ne hb) rfl rfl) ha ?_ z oq) (hS.put z oq (Nat.le_add_right _ _)) hl
    rw [ax_e_arr (h := ax_pi h a i.toNatClampNeg x) (kd := 11) hk (by decide)]
    show H1[g.2.1 + a]? = some (arrV (g.2.2.2.2 11) (h.2.1 a).2 (fun j => .int (ax_u h.2.2.1 a i.toNatClampNeg x a j)))
    rw [e1, arrV_store, hln, ax_u_eq]
    congr 2
    funext q
    by_cases hq : q = i.toNatClampNeg
    · subst hq
      simp [updV]
    · simp [updV, hq, ax_i]
  · exact ho.elim
theorem ak_bast (hd : decode cc pc = .ok (.bastore, 1)) : ax_ok g cc nL ret own nm d mc ms pc ao_bast := by
  intro p e s m args below meth c V Ret L st h u1 u2 K ho hK H locs ls hP hS hl
  dsimp only [ao_bast] at ho
  split at ho
  · rename_i x i a r
    obtain ⟨ha, hw, hv, hk, hln⟩ := ax_arr hP ho.1 (by decide) (by decide)
    show W _ _ _ _ _ _ _ _ _ _ _ _ _ _ _ (F0 m pc ls (Value.int x :: .int i :: ax_v g (.ref a) :: r.map (ax_v g)))
    rw [hv]
    have hat : H[g.2.1 + a]? = some (arrV (g.2.2.2.2 12) (ax_s h a).2 (fun j => .int (ax_i h a j))) := hP.1 a _ hw
    refine W.bast V.1 V.2.1 hat ((V.2.2.2.2.2.2.2.2.1.2 1 _ rfl).1 _ _) (fun q => by cases q) (ax_in_size ho.2.1) rfl rfl hd fun H1 e1 z oq => ?_
    refine hK _ ho.2.2 H1 _ ls (ax_P_set hP rfl (fun b hb => ax_e_cong rfl (ax_u_ne hb) rfl rfl) ha ?_ z oq) (hS.put z oq (Nat.le_add_right _ _)) hl
    rw [ax_e_arr (h := ax_pi h a i.toNatClampNeg x.toInt8.toInt32) (kd := 12) hk (by decide)]
    show H1[g.2.1 + a]? = some (arrV (g.2.2.2.2 12) (h.2.1 a).2 (fun j => .int (ax_u h.2.2.1 a i.toNatClampNeg x.toInt8.toInt32 a j)))
    rw [e1, arrV_store, hln, ax_u_eq]
    congr 2
    funext q
    by_cases hq : q = i.toNatClampNeg
    · subst hq
      simp [updV]
      rfl
    · simp [updV, hq, ax_i]
  · exact ho.elim
theorem ak_last (hd : decode cc pc = .ok (.lastore, 1)) : ax_ok g cc nL ret own nm d mc ms pc ao_last := by
  intro p e s m args below meth c V Ret L st h u1 u2 K ho hK H locs ls hP hS hl
  dsimp only [ao_last] at ho
  split at ho
  · rename_i x i a r
    obtain ⟨ha, hw, hv, hk, hln⟩ := ax_arr hP ho.1 (by decide) (by decide)
    show W _ _ _ _ _ _ _ _ _ _ _ _ _ _ _ (F0 m pc ls (Value.long x :: .int i :: ax_v g (.ref a) :: r.map (ax_v g)))
    rw [hv]
    have hat : H[g.2.1 + a]? = some (arrV (g.2.2.2.2 14) (ax_s h a).2 (fun j => .long (ax_l h a j))) := hP.1 a _ hw
    refine W.last V.1 V.2.1 hat ((V.2.2.2.2.2.2.2.2.1.2 3 _ rfl).1 _ _) (fun q => by cases q) (ax_in_size ho.2.1) rfl rfl hd fun H1 e1 z oq => ?_
    refine hK _ ho.2.2 H1 _ ls (ax_P_set hP rfl (fun b hb => ax_e_cong rfl rfl (ax_u_ne hb) rfl) ha ?_ z oq) (hS.put z oq (Nat.le_add_right _ _)) hl
    rw [ax_e_arr (h := ax_pl h a i.toNatClampNeg x) (kd := 14) hk (by decide)]
    show H1[g.2.1 + a]? = some (arrV (g.2.2.2.2 14) (h.2.1 a).2 (fun j => .long (ax_u h.2.2.2.1 a i.toNatClampNeg x a j)))
    rw [e1, arrV_store, hln, ax_u_eq]
    congr 2
    funext q
    by_cases hq : q = i.toNatClampNeg
    · subst hq
      simp [updV]
    · simp [updV, hq, ax_l]
  · exact ho.elim
/-! the tree of a code -/
def ax_nd (k : Nat) (a b : Nat → ax_O) : Nat → ax_O := fun pc => bif Nat.ble pc k then a pc else b pc
def ax_lf (k : Nat) (o : ax_O) : Nat → ax_O := fun pc => bif Nat.beq pc k then o else ao_no
theorem ax_nd_ok {k : Nat} {a b : Nat → ax_O} (ha : ∀ pc, ax_ok g cc nL ret own nm d mc ms pc (a pc)) (hb : ∀ pc, ax_ok g cc nL ret own nm d mc ms pc (b pc)) : ∀ pc, ax_ok g cc nL ret own nm d mc ms pc (ax_nd k a b pc) := by
  intro pc
  unfold ax_nd
  cases Nat.ble pc k
  · exact hb pc
  · exact ha pc
theorem ax_lf_ok {k : Nat} {o : ax_O} (ho : ax_ok g cc nL ret own nm d mc ms k o) : ∀ pc, ax_ok g cc nL ret own nm d mc ms pc (ax_lf k o pc) := by
  intro pc
  unfold ax_lf
  cases h : Nat.beq pc k
  · exact ak_no
  · rw [Nat.eq_of_beq_eq_true h]
    exact ho
/-- switches -/
def ax_sw (x : Int32) (K : Nat → Prop) (dflt : Nat) : List (Int32 × Nat) → Prop
  | [] => K dflt
  | (v, t) :: r => (x = v → K t) ∧ (¬ x = v → ax_sw x K dflt r)
def ao_sw (ts : List (Int32 × Nat)) (dflt : Nat) : ax_O := fun _ σ K => match σ.2.2.1 with
  | .int x :: r => ax_sw x (fun t => K (t, σ.2.1, r, σ.2.2.2)) dflt ts
  | _ => False
end
