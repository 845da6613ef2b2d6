section
variable {g : ax_G} {cc : ByteArray} {nL : Nat} {ret : Option FieldType} {own nm : String} {d mc ms pc : Nat}
def ao_obj : ax_O := fun _ σ K => match σ with
  | (pc, L, st, h, u1, u2) => match st with
    | .ref _ :: r => (r.map Value.category).sum ≤ 8 ∧ K (pc + 3, L, r, h, u1, u2)
    | _ => False
theorem ak_obj {index : Nat} (hd1 : 0 < d) (hl : Cond.methodLink own index Lib.objectInit ∈ lw_gd) (hi : Cond.instanceMethod Lib.objectInit ∈ lw_gd) (hc : Cond.code Lib.objectInit ⟨#[0xb1]⟩ 1 none ∈ lw_gd) (hd : decode cc pc = .ok (.invokespecial index, 3)) : ax_ok g cc nL ret own nm d mc ms pc ao_obj := by
  intro p e s m args below meth c V Ret L st h u1 u2 K ho hK H locs ls hP hS hlr
  dsimp only [ao_obj] at ho
  split at ho
  · have ht := V.2.2.2.2.2.2.2.1
    refine W.objInit V.1 V.2.1 V.2.2.2.2.2.1 (ht _ hl) (ht _ hi) (ht _ hc) rfl (hlr.1.trans V.2.2.2.2.1.symm) rfl hd hd1 ?_ (hK _ ho.2 H locs ls hP hS hlr)
    show 0 + _ + 12 ≤ 41 * d + 32
    rw [Nat.zero_add, ax_sum]
    have := ho.1
    omega
  · exact ho.elim
/-- the world with one cell more -/
theorem ax_P_new {h : ax_H} {H H1 : Heap} {kd ln : Nat} (hP : ax_P g h H) (hx : va_at g.2.2.2.1 vwCl (g.2.1 + h.1, ax_e g (ax_nw h kd ln) h.1) H1) (z : H1.size = H.size + 1) (oq : ∀ q : Nat, q < H.size → H1[q]? = H[q]?) (hn : h.1 + 1 < 1000000) : ax_P g (ax_nw h kd ln) H1 := by
  have hold : ∀ b, b < h.1 → ax_e g (ax_nw h kd ln) b = ax_e g h b := fun b hb => ax_e_cong (if_neg (Nat.ne_of_lt hb)) (if_neg (Nat.ne_of_lt hb)) (if_neg (Nat.ne_of_lt hb)) (if_neg (Nat.ne_of_lt hb))
  refine ⟨fun k q hk => ?_, by rw [z, hP.2.1]; rfl, hn⟩
  by_cases hk1 : k < h.1
  · rw [ax_w_get (Nat.lt_succ_of_lt hk1)] at hk
    cases hk
    rw [hold k hk1]
    exact (ax_at hP hk1).kept (oq _ (by rw [hP.2.1]; omega))
  · have hlt : k < h.1 + 1 := by
      have := (List.getElem?_eq_some_iff.mp hk).1
      unfold ax_w at this
      rw [List.length_map, List.length_range] at this
      exact this
    have : k = h.1 := by omega
    subst this
    rw [ax_w_get (h := ax_nw h kd ln) hlt] at hk
    cases hk
    exact hx
theorem ax_S_new {s : State} {H H1 : Heap} {locs : List Loc} (hS : va_S (ax_A g) s.heap H locs) (z : H1.size = H.size + 1) (oq : ∀ q : Nat, q < H.size → H1[q]? = H[q]?) : va_S (ax_A g) s.heap H1 locs := ⟨Nat.le_trans hS.1 (by omega), fun x h1 h2 => (oq x (Nat.lt_of_lt_of_le h1 hS.1)).trans (hS.2.1 x h1 h2), hS.2.2⟩
theorem ax_vn {h : ax_H} (hn : h.1 + 1 < 1000000) : ax_v g (.ref h.1) = .ref (g.2.1 + h.1) := by
  show Value.ref (ax_ad g h.1) = _
  rw [ax_ad_lt (by omega)]
/-- a new object; N: its slots -/
def ao_new (ci N mc ms : Nat) : ax_O := fun _ σ K => match σ with
  | (pc, L, st, h, u1, u2) => (h.1 + 1 < 1000000 ∧ u1 + 1 ≤ mc ∧ u2 + N ≤ ms) ∧ K (pc + 3, L, .ref h.1 :: st, ax_nw h ci 0, u1 + 1, u2 + N)
theorem ak_new {ci N index : Nat} {C : String} {T : u_T} {ty : Nat → FieldType} (hci : ci < 11) (hc : vwCl[ci]? = some (C, T, N)) (hin : ∀ w ∈ u_ws C T N, w ∈ lw_gd) (hty : ∀ k, k < N → parseFieldDescriptor (T k).2.2.1 = some (ty k)) (hdv : ∀ j, j < N → defaultValue (ty j) = vp_V ((ax_ft ci).map fun t => if t = 0 then .int 0 else if t = 1 then .long 0 else .null) j) (hcl : Cond.classLink own index C ∈ lw_gd) (hinst : Cond.instantiable C N ∈ lw_gd) (hini : Cond.initialized C ∈ lw_gd) (hd : decode cc pc = .ok (.new index, 3)) : ax_ok g cc nL ret own nm d mc ms pc (ao_new ci N mc ms) := by
  intro p e s m args below meth c V Ret L st h u1 u2 K ho hK H locs ls hP hS hlr
  dsimp only [ao_new] at ho
  obtain ⟨⟨h0, h1, h2⟩, ho⟩ := ho
  have ht := V.2.2.2.2.2.2.2.1
  have hKn := V.2.2.2.2.2.2.2.2.1.1 ci _ hc
  refine W.newcK V.1 V.2.1 V.2.2.2.2.2.1 (ht _ hcl) (ht _ hinst) (ht _ hini) rfl hd h1 h2 hKn.2.1 rfl fun H1 kC hkC e1 z1 o1 => ?_
  have hfl : ax_fl g (ax_nw h ci 0) (ax_ft ci) h.1 = (ax_ft ci).map fun t => if t = 0 then .int 0 else if t = 1 then .long 0 else .null := by
    apply List.ext_getElem?
    intro k
    cases hk : (ax_ft ci)[k]? with
    | none =>
      rw [List.getElem?_map, hk, List.getElem?_eq_none_iff.mpr (by rw [ax_fl_len]; exact List.getElem?_eq_none_iff.mp hk)]
      rfl
    | some t =>
      rw [ax_fl_get hk, List.getElem?_map, hk]
      show some _ = some _
      have e1 : ax_i (ax_nw h ci 0) h.1 k = 0 := by show (if h.1 = h.1 then (fun _ => (0 : Int32)) else _) k = 0; rw [if_pos rfl]
      have e2 : ax_l (ax_nw h ci 0) h.1 k = 0 := by show (if h.1 = h.1 then (fun _ => (0 : Int64)) else _) k = 0; rw [if_pos rfl]
      have e3 : ax_r (ax_nw h ci 0) h.1 k = none := by show (if h.1 = h.1 then (fun _ => (none : Option Nat)) else _) k = none; rw [if_pos rfl]
      rw [e1, e2, e3]
      rfl
  have hx : va_at g.2.2.2.1 vwCl (g.2.1 + h.1, ax_e g (ax_nw h ci 0) h.1) H1 := by
    rw [ax_e_obj (h := ax_nw h ci 0) (ci := ci) (by show (if h.1 = h.1 then (ci, 0) else _).1 = ci; rw [if_pos rfl]) hci, hfl]
    rw [hP.2.1] at e1
    exact ⟨_, hc, (u_born ty ht hin hKn hkC e1 hty).to hdv⟩
  have := hK _ ho H1 locs ls (ax_P_new hP hx z1 o1 h0) (ax_S_new hS z1 o1) hlr
  have e : ((Value.ref h.1) :: st).map (ax_v g) = .ref H.size :: st.map (ax_v g) := by rw [List.map_cons, ax_vn h0, hP.2.1]
  rw [show ((pc + 3, L, Value.ref h.1 :: st, ax_nw h ci 0, u1 + 1, u2 + N) : ax_S).2.2.1.map (ax_v g) = .ref H.size :: st.map (ax_v g) from e] at this
  exact this
/-- a new array of numbers -/
def ao_newa (kd bt mc ms : Nat) : ax_O := fun _ σ K => match σ with
  | (pc, L, st, h, u1, u2) => match st with
    | .int n :: r => (¬ n < 0) ∧ (h.1 + 1 < 1000000 ∧ u1 + 1 ≤ mc ∧ u2 + n.toNatClampNeg ≤ ms ∧ n.toNatClampNeg * bt ≤ 536870912) ∧ K (pc + 2, L, .ref h.1 :: r, ax_nw h kd n.toNatClampNeg, u1 + 1, u2 + n.toNatClampNeg)
    | _ => False
theorem ax_e_new {h : ax_H} {kd ln : Nat} (hk : ¬ kd < 11) : ax_e g (ax_nw h kd ln) h.1 = .inl (g.2.2.2.2 kd, ln, if kd < 14 then .inl (fun _ => 0) else if kd = 14 then .inr (.inl (fun _ => 0)) else .inr (.inr (.inr (.inr (fun _ => none))))) := by
  have e0 : (ax_nw h kd ln).2.1 h.1 = (kd, ln) := if_pos rfl
  rw [ax_e_arr (kd := kd) (by rw [e0]) hk, e0]
  unfold ax_c
  have e1 : ax_i (ax_nw h kd ln) h.1 = fun _ => 0 := by show (if h.1 = h.1 then (fun _ => (0 : Int32)) else _) = _; rw [if_pos rfl]
  have e2 : ax_l (ax_nw h kd ln) h.1 = fun _ => 0 := by show (if h.1 = h.1 then (fun _ => (0 : Int64)) else _) = _; rw [if_pos rfl]
  have e3 : ax_r (ax_nw h kd ln) h.1 = fun _ => none := by show (if h.1 = h.1 then (fun _ => (none : Option Nat)) else _) = _; rw [if_pos rfl]
  rw [e1, e2, e3]
  rfl
theorem ak_newa {kd t0 bt : Nat} {atype : ArrayType} {ty : FieldType} (hk : ¬ kd < 11) (hk2 : kd < 15) (hty : newarray.typeOf atype = ty) (hbt : componentBytes ty = bt) (hno : ∀ C, ty ≠ .object C) (ht0 : (ax_t g)[t0]? = some (g.2.2.2.2 kd, ty)) (hdf : ∀ cA n, vp_cell cA (n, if kd < 14 then .inl (fun _ => 0) else if kd = 14 then .inr (.inl (fun _ => 0)) else .inr (.inr (.inr (.inr (fun _ => none))))) = arrV cA n (fun _ => defaultValue ty)) (hw : Cond.arrayClass ty ∈ lw_gd) (hd : decode cc pc = .ok (.newarray atype, 2)) : ax_ok g cc nL ret own nm d mc ms pc (ao_newa kd bt mc ms) := by
  intro p e s m args below meth c V Ret L st h u1 u2 K ho hK H locs ls hP hS hlr
  dsimp only [ao_newa] at ho
  split at ho
  · rename_i n r
    obtain ⟨hn, ⟨h0, h1, h2, h3⟩, ho⟩ := ho
    have ht := V.2.2.2.2.2.2.2.1
    subst hty
    subst hbt
    refine va_newaK V.1 V.2.1 (ht _ hw) rfl hd rfl hn rfl h3 h1 h2 rfl fun H1 cA e1 z1 o1 _ hNm => ?_
    have hcA : g.2.2.2.2 kd = cA := by
      have hra := (V.2.2.2.2.2.2.2.2.1.2 t0 _ ht0).2
      have hra' : s.vm.findClass ("[" ++ (newarray.typeOf atype).toString) = some (g.2.2.2.2 kd) := by
        revert hra
        cases atype <;> exact fun q => q
      exact Option.some.inj (hra'.symm.trans hNm)
    have hx : va_at g.2.2.2.1 vwCl (g.2.1 + h.1, ax_e g (ax_nw h kd n.toNatClampNeg) h.1) H1 := by
      rw [ax_e_new hk, hcA]
      show H1[g.2.1 + h.1]? = some (vp_cell cA _)
      rw [hdf, ← hP.2.1]
      exact e1
    have := hK _ ho H1 locs ls (ax_P_new hP hx z1 o1 h0) (ax_S_new hS z1 o1) hlr
    have e : ((Value.ref h.1) :: r).map (ax_v g) = .ref H.size :: r.map (ax_v g) := by rw [List.map_cons, ax_vn h0, hP.2.1]
    rw [show ((pc + 2, L, Value.ref h.1 :: r, ax_nw h kd n.toNatClampNeg, u1 + 1, u2 + n.toNatClampNeg) : ax_S).2.2.1.map (ax_v g) = .ref H.size :: r.map (ax_v g) from e] at this
    exact this
  · exact ho.elim
/-- a new array of references -/
def ao_newr (kd mc ms : Nat) : ax_O := fun _ σ K => match σ with
  | (pc, L, st, h, u1, u2) => match st with
    | .int n :: r => (¬ n < 0) ∧ (h.1 + 1 < 1000000 ∧ u1 + 1 ≤ mc ∧ u2 + n.toNatClampNeg ≤ ms ∧ n.toNatClampNeg * 4 ≤ 536870912) ∧ K (pc + 3, L, .ref h.1 :: r, ax_nw h kd n.toNatClampNeg, u1 + 1, u2 + n.toNatClampNeg)
    | _ => False
theorem ak_newr {kd t0 index : Nat} {C : String} (hk : ¬ kd < 15) (ht0 : (ax_t g)[t0]? = some (g.2.2.2.2 kd, .object C)) (hcl : Cond.classLink own index C ∈ lw_gd) (hw : C ∈ ax_ao) (hd : decode cc pc = .ok (.anewarray index, 3)) : ax_ok g cc nL ret own nm d mc ms pc (ao_newr kd mc ms) := by
  intro p e s m args below meth c V Ret L st h u1 u2 K ho hK H locs ls hP hS hlr
  dsimp only [ao_newr] at ho
  split at ho
  · rename_i n r
    obtain ⟨hn, ⟨h0, h1, h2, h3⟩, ho⟩ := ho
    have ht := V.2.2.2.2.2.2.2.1
    refine W.anew V.1 V.2.1 V.2.2.2.2.2.1 (ht _ hcl) (va_AO.use (V.2.2.2.2.2.2.2.2.2.2.2.2.2.2.2.2.2.2.1 _ hw)) rfl hd rfl hn h3 h1 h2 fun cA kA comp f1 f2 f3 f4 => ?_
    generalize hH1 : H.push ({ cls := cA, slots := Array.replicate n.toNatClampNeg .null, vm := .none } : Cell) = H1
    have z1 : H1.size = H.size + 1 := by rw [← hH1, Array.size_push]
    have e1 : H1[H.size]? = some (arrV cA n.toNatClampNeg (fun _ => .null)) := by rw [← hH1, Array.getElem?_push_size, ← arrV_new]
    have o1 : ∀ q : Nat, q < H.size → H1[q]? = H[q]? := fun q hq => by rw [← hH1, Array.getElem?_push, if_neg (Nat.ne_of_lt hq)]
    have hcA : g.2.2.2.2 kd = cA := by
      obtain ⟨_, _, _, _, _, hra⟩ := (V.2.2.2.2.2.2.2.2.1.2 t0 _ ht0).2
      exact Option.some.inj (hra.symm.trans f1)
    have hx : va_at g.2.2.2.1 vwCl (g.2.1 + h.1, ax_e g (ax_nw h kd n.toNatClampNeg) h.1) H1 := by
      rw [ax_e_new (by omega), hcA, if_neg (by omega), if_neg (by omega)]
      show H1[g.2.1 + h.1]? = some (arrV cA _ (fun _ => .null))
      rw [← hP.2.1]
      exact e1
    have := hK _ ho H1 locs ls (ax_P_new hP hx z1 o1 h0) (ax_S_new hS z1 o1) hlr
    have e : ((Value.ref h.1) :: r).map (ax_v g) = .ref H.size :: r.map (ax_v g) := by rw [List.map_cons, ax_vn h0, hP.2.1]
    rw [show ((pc + 3, L, Value.ref h.1 :: r, ax_nw h kd n.toNatClampNeg, u1 + 1, u2 + n.toNatClampNeg) : ax_S).2.2.1.map (ax_v g) = .ref H.size :: r.map (ax_v g) from e] at this
    exact this
  · exact ho.elim
/-- a store of an object of class ci into an array of references -/
def ao_aast (kd ci : Nat) : ax_O := fun _ σ K => match σ with
  | (pc, L, st, h, u1, u2) => match st with
    | .ref b :: .int i :: .ref a :: r => (ax_s h a).1 = kd ∧ (ax_s h b).1 = ci ∧ vp_in i (ax_s h a).2 ∧ K (pc + 1, L, r, ax_pr h a i.toNatClampNeg (some b), u1, u2)
    | _ => False
theorem ak_aast {kd t0 ci N : Nat} {C : String} {T : u_T} (hk : ¬ kd < 15) (hk9 : kd < 99) (hci : ci < 11) (hcl : vwCl[ci]? = some (C, T, N)) (ht0 : (ax_t g)[t0]? = some (g.2.2.2.2 kd, .object C)) (hd : decode cc pc = .ok (.aastore, 1)) : ax_ok g cc nL ret own nm d mc ms pc (ao_aast kd ci) := by
  intro p e s m args below meth c V Ret L st h u1 u2 K ho hK H locs ls hP hS hl
  dsimp only [ao_aast] at ho
  split at ho
  · rename_i b i a r
    obtain ⟨ho1, ho2, ho3, ho⟩ := ho
    obtain ⟨ha, hw, hv, hk', hln⟩ := ax_arr hP ho1 (by omega) hk9
    obtain ⟨hb, hsb, -⟩ := ax_s_lt ho2 (by omega)
    have hvb := ax_vr hP hb
    have hc : ax_c g h a kd = .inr (.inr (.inr (.inr (fun j => (ax_r h a j).map (ax_ad g))))) := by unfold ax_c; rw [if_neg (by omega), if_neg (by omega)]
    rw [hc] at hw
    show W _ _ _ _ _ _ _ _ _ _ _ _ _ _ _ (F0 m pc ls (ax_v g (.ref b) :: .int i :: ax_v g (.ref a) :: r.map (ax_v g)))
    rw [hv, hvb]
    have hat : H[g.2.1 + a]? = some (arrV (g.2.2.2.2 kd) (ax_s h a).2 (fun j => va_rf ((ax_r h a j).map (ax_ad g)))) := hP.1 a _ hw
    have hatb := ax_at hP hb
    rw [ax_e_obj hsb hci] at hatb
    obtain ⟨r', hr', cellV, g1, g2, g3, -⟩ := hatb
    have hcls := (V.2.2.2.2.2.2.2.2.1.1 ci _ hcl).2
    obtain ⟨kA, comp, k1, k2, k3, -⟩ := (V.2.2.2.2.2.2.2.2.1.2 t0 _ ht0).2
    have hcomp : comp = g.2.2.2.1.1 ci := Option.some.inj (k3.symm.trans hcls.1)
    subst hcomp
    obtain ⟨kC, hkC, hkk⟩ := id hcls.2
    have hlt : i.toNatClampNeg < (ax_s h a).2 := Nat.not_le.mp fun q => ho3 (Or.inr q)
    refine W.aast V.1 V.2.1 hat (fun q h => by cases h) (fun h => by cases h) k1 k2 rfl hkC ⟨fun q => ho3 (Or.inl q), by rw [arrV_size]; exact hlt⟩ g1 (fun q h => by rw [g3] at h; cases h) (by rw [g2]; exact hkC) (by rw [g2]; exact va_assign hcls) rfl rfl hd fun H1 e1 z oq => ?_
    refine hK _ ho H1 _ ls (ax_P_set hP rfl (fun b hb => ax_e_cong rfl rfl rfl (ax_u_ne hb)) ha ?_ z oq) (hS.put z oq (Nat.le_add_right _ _)) hl
    rw [ax_e_arr (h := ax_pr h a i.toNatClampNeg (some b)) (kd := kd) hk' (by omega)]
    unfold ax_c
    rw [if_neg (by omega), if_neg (by omega)]
    show H1[g.2.1 + a]? = some (arrV (g.2.2.2.2 kd) (h.2.1 a).2 (fun j => va_rf ((ax_u h.2.2.2.2 a i.toNatClampNeg (some b) a j).map (ax_ad g))))
    rw [e1, arrV_store, hln, ax_u_eq]
    congr 2
    funext q
    by_cases hq : q = i.toNatClampNeg
    · subst hq
      have : ax_ad g b = g.2.1 + b := by
        have := hvb
        exact Value.ref.inj this
      simp [updV, va_rf, this]
    · simp [updV, hq, ax_r]
  · exact ho.elim
/-! static arrays -/
def ao_gs (j : Nat) : ax_O := fun _ σ K => match σ with
  | (pc, L, st, h, u1, u2) => K (pc + 3, L, .ref (1000000 + j) :: st, h, u1, u2)
theorem ak_gs {j index : Nat} {q : String × String × List Int32} (hq : ax_sa[j]? = some q) (hl : Cond.fieldLink own index q.1 q.2.1 "[I" ∈ lw_gd) (hd : decode cc pc = .ok (.getstatic index, 3)) : ax_ok g cc nL ret own nm d mc ms pc (ao_gs j) := by
  intro p e s m args below meth c V Ret L st h u1 u2 K ho hK H locs ls hP hS hlr
  dsimp only [ao_gs] at ho
  exact va_gets V.1 V.2.1 (V.2.2.2.2.2.2.2.2.2.2.1 j q hq).1 hS V.2.2.2.2.2.1 (V.2.2.2.2.2.2.2.1 _ hl) (fun _ h => h) hd (hK _ ho H locs ls hP hS hlr)
theorem ak_gsN {j index : Nat} {host : String} {q : String × String × List Int32} (hq : ax_sa[j]? = some q) (hl : (own, index, q.1, q.2.1, "[I", host) ∈ ax_nf) (hd : decode cc pc = .ok (.getstatic index, 3)) : ax_ok g cc nL ret own nm d mc ms pc (ao_gs j) := by
  intro p e s m args below meth c V Ret L st h u1 u2 K ho hK H locs ls hP hS hlr
  dsimp only [ao_gs] at ho
  exact va_getsN V.1 V.2.1 (V.2.2.2.2.2.2.2.2.2.2.1 j q hq).1 hS V.2.2.2.2.2.1 (va_Nw.use rfl (V.2.2.2.2.2.2.2.2.2.2.2.2.2.2.2.2.1 _ hl)) (fun _ h => h) hd (hK _ ho H locs ls hP hS hlr)
def ao_sald (j : Nat) (q : List Int32) : ax_O := fun _ σ K => match σ with
  | (pc, L, st, h, u1, u2) => match st with
    | .int i :: .ref a :: r => a = 1000000 + j ∧ vp_in i q.length ∧ K (pc + 1, L, .int (q.getD i.toNatClampNeg 0) :: r, h, u1, u2)
    | _ => False
theorem ak_sald {j : Nat} {q : String × String × List Int32} (hq : ax_sa[j]? = some q) (hd : decode cc pc = .ok (.iaload, 1)) : ax_ok g cc nL ret own nm d mc ms pc (ao_sald j q.2.2) := by
  intro p e s m args below meth c V Ret L st h u1 u2 K ho hK H locs ls hP hS hlr
  dsimp only [ao_sald] at ho
  split at ho
  · obtain ⟨rfl, hin, ho⟩ := ho
    exact va_ti V.1 V.2.1 (V.2.2.2.2.2.2.2.2.2.2.1 j q hq).2 hS hin rfl hd (hK _ ho H locs ls hP hS hlr)
  · exact ho.elim
end
section
variable {g : ax_G} {cc : ByteArray} {nL : Nat} {ret : Option FieldType} {own nm : String} {d mc ms pc : Nat}
/-- a row of ints in the place of another -/
def ax_row (h : ax_H) (a : Nat) (f : Nat → Int32) : ax_H := (h.1, h.2.1, (fun b => if b = a then f else h.2.2.1 b), h.2.2.2.1, h.2.2.2.2)
/-- System.arraycopy between arrays of kind kd (11 ints, 12 bytes) -/
def ao_copy (kd : Nat) : ax_O := fun _ σ K => match σ with
  | (pc, L, st, h, u1, u2) => match st with
    | .int n :: .int dp :: .ref a :: .int sp :: .ref b :: r => (ax_s h a).1 = kd ∧ (ax_s h b).1 = kd ∧ ((¬ sp < 0) ∧ (¬ dp < 0) ∧ (¬ n < 0) ∧ sp.toNatClampNeg + n.toNatClampNeg ≤ (ax_s h b).2 ∧ dp.toNatClampNeg + n.toNatClampNeg ≤ (ax_s h a).2) ∧ (kd = 11 ∨ ∀ i, i < n.toNatClampNeg → fits .byte (.int (ax_i h b (sp.toNatClampNeg + i))) = true) ∧ (r.map Value.category).sum ≤ 8 ∧ K (pc + 3, L, r, ax_row h a (va_cpy (ax_i h b) (ax_i h a) sp.toNatClampNeg dp.toNatClampNeg n.toNatClampNeg), u1, u2)
    | _ => False
theorem ak_copy {kd t0 index : Nat} {ty : FieldType} (hd2 : 1 < d) (hkd : kd = 11 ∧ ty = .int ∨ kd = 12 ∧ ty = .byte) (ht0 : (ax_t g)[t0]? = some (g.2.2.2.2 kd, ty)) (hl : Cond.methodLink own index arraycopyName ∈ lw_gd) (hnat : Cond.native arraycopyName ∈ lw_gd) (hstat : Cond.static arraycopyName ∈ lw_gd) (hini : Cond.initialized "java/lang/System" ∈ lw_gd) (hd : decode cc pc = .ok (.invokestatic index, 3)) : ax_ok g cc nL ret own nm d mc ms pc (ao_copy kd) := by
  intro p e s m args below meth c V Ret L st h u1 u2 K ho hK H locs ls hP hS hlr
  dsimp only [ao_copy] at ho
  split at ho
  · rename_i n dp a sp b r
    obtain ⟨hsa, hsb, ⟨h1, h2, h3, h4, h5⟩, hfit, hr8, ho⟩ := ho
    have hk1 : ¬ kd < 11 := by omega
    have hk2 : kd < 14 := by omega
    obtain ⟨ha, hwa, hva, hka, hla⟩ := ax_arr hP hsa hk1 (by omega)
    obtain ⟨hb, hwb, hvb, hkb, hlb⟩ := ax_arr hP hsb hk1 (by omega)
    have hc : ∀ x, ax_c g h x kd = .inl (ax_i h x) := fun x => by unfold ax_c; rw [if_pos hk2]
    rw [hc] at hwa hwb
    show W _ _ _ _ _ _ _ _ _ _ _ _ _ _ _ (F0 m pc ls (.int n :: .int dp :: ax_v g (.ref a) :: .int sp :: ax_v g (.ref b) :: r.map (ax_v g)))
    rw [hva, hvb]
    have ht := V.2.2.2.2.2.2.2.1
    have nn : ∀ z : Int32, ¬ z < 0 → z.toInt = (z.toNatClampNeg : Int) := by
      intro z hz
      have hz0 : (0 : Int) ≤ z.toInt := by
        have := Int32.not_lt.mp hz
        simpa using Int32.le_iff_toInt_le.mp this
      show z.toInt = ((z.toInt.toNat : Nat) : Int)
      omega
    intro T hT X
    have hc0 : H[g.2.1 + b]? = some (arrV (g.2.2.2.2 kd) (ax_s h b).2 (fun j => .int (ax_i h b j))) := hP.1 b _ hwb
    have hc1 : H[g.2.1 + a]? = some (arrV (g.2.2.2.2 kd) (ax_s h a).2 (fun j => .int (ax_i h a j))) := hP.1 a _ hwa
    obtain ⟨-, k0, hk0, cm0, hkk0⟩ := (V.2.2.2.2.2.2.2.2.1.2 t0 _ ht0).1 (ax_s h b).2 (fun j => .int (ax_i h b j))
    obtain ⟨-, k1, hk1, cm1, hkk1⟩ := (V.2.2.2.2.2.2.2.2.1.2 t0 _ ht0).1 (ax_s h a).2 (fun j => .int (ax_i h a j))
    have hprim : refKind ty = false := by rcases hkd with ⟨-, rfl⟩ | ⟨-, rfl⟩ <;> rfl
    obtain ⟨vm', X', step⟩ := X.arraycopy V.1 V.2.2.2.2.2.1 (ht _ hl) (ht _ hnat) (ht _ hstat) (ht _ hini) (src := g.2.1 + b) (dst := g.2.1 + a) (srcPos := sp) (destPos := dp) (n := n) (by rw [hT]; exact hc0) (by rw [hT]; exact hc1)
      (fun _ h => by cases h) (fun _ h => by cases h) (fun h => by cases h) (fun h => by cases h) hk0 hk1 hkk0 hkk1 (by simp [hprim]) h1 h2 h3
      (by rw [nn sp h1, nn n h3, arrV_size]; omega)
      (by rw [nn dp h2, nn n h3, arrV_size]; omega)
      (fun vm₁ _ i hi => by
        have e : (arrV (g.2.2.2.2 kd) (ax_s h b).2 (fun j => .int (ax_i h b j))).slots.getD (sp.toNatClampNeg + i) .null = .int (ax_i h b (sp.toNatClampNeg + i)) := by
          rw [Array.getD_eq_getD_getElem?, arrV_read _ _ (by omega)]
          rfl
        refine ⟨?_, ?_⟩
        · rw [e]
          rcases hkd with ⟨-, rfl⟩ | ⟨hq, rfl⟩
          · rfl
          · exact (hfit.resolve_left (by omega)) i hi
        · rw [e]
          exact trivial)
      (g := F0 m pc ls (.int n :: .int dp :: .ref (g.2.1 + a) :: .int sp :: .ref (g.2.1 + b) :: r.map (ax_v g))) rfl (by rw [V.2.2.2.2.1]; exact hlr.1) (rest := r.map (ax_v g)) rfl (by rw [V.2.1]; exact hd) (by show 1 ≤ d; omega) (by
        show 2 * 0 + _ + (_ + 11) ≤ 41 * d + 32
        rw [ax_sum]
        have : nativeFrameWords "java/lang/System" "arraycopy" 5 ≤ 60 := by decide +kernel
        omega)
    have e1 : copied (arrV (g.2.2.2.2 kd) (ax_s h b).2 (fun j => .int (ax_i h b j))) (arrV (g.2.2.2.2 kd) (ax_s h a).2 (fun j => .int (ax_i h a j))) sp dp n = arrV (g.2.2.2.2 kd) (ax_s h a).2 (fun j => .int (va_cpy (ax_i h b) (ax_i h a) sp.toNatClampNeg dp.toNatClampNeg n.toNatClampNeg j)) := va_copied (fun z => .int z) _ _ (ax_i h b) (ax_i h a) h4
    rw [e1] at X' step
    generalize va_cpy (ax_i h b) (ax_i h a) sp.toNatClampNeg dp.toNatClampNeg n.toNatClampNeg = F at X' step ho
    have hl2 : g.2.1 + a < H.size := (Array.getElem?_eq_some_iff.mp hc1).1
    generalize hcell : arrV (g.2.2.2.2 kd) (ax_s h a).2 (fun j => Value.int (F j)) = cell at X' step
    have hheap : ((T.setVm vm').setCell (g.2.1 + a) cell).heap = H.setIfInBounds (g.2.1 + a) cell := by rw [← hT]; rfl
    have oq : ∀ q : Nat, q ≠ g.2.1 + a → (H.setIfInBounds (g.2.1 + a) cell)[q]? = H[q]? := fun q hq => by simp [Array.getElem?_setIfInBounds, Ne.symm hq]
    have hnew : (H.setIfInBounds (g.2.1 + a) cell)[g.2.1 + a]? = some cell := by simp [Array.getElem?_setIfInBounds, hl2]
    obtain ⟨t, a1, b1⟩ := hK _ ho (H.setIfInBounds (g.2.1 + a) cell) _ ls (ax_P_set (a := a) (h' := ax_row h a F) hP rfl (fun x hx => ax_e_cong rfl (if_neg hx) rfl rfl) ha (by
        rw [ax_e_arr (h := ax_row h a F) (kd := kd) hka (by omega)]
        unfold ax_c
        rw [if_pos hk2]
        show (H.setIfInBounds (g.2.1 + a) cell)[g.2.1 + a]? = some (arrV (g.2.2.2.2 kd) (h.2.1 a).2 (fun j => .int ((if a = a then F else h.2.2.1 a) j)))
        rw [hnew, if_pos rfl, hla, hcell]) (by simp) oq) ⟨by simp; exact hS.1, fun q g1 g2 => by
        rw [oq q (fun e => g2 (by rw [e]; exact Nat.le_add_right _ _))]
        exact hS.2.1 q g1 g2, fun q hq => by
        rcases List.mem_append.mp hq with h | h
        · exact hS.2.2 q h
        · obtain ⟨z, -, hz⟩ := List.mem_map.mp h
          rw [← hz]
          exact Nat.le_add_right _ _⟩ hlr _ hheap X'
    exact ⟨t, step t a1, b1⟩
  · exact ho.elim
end
