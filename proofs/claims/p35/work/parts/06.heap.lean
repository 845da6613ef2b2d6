section
variable {g : ax_G} {cc : ByteArray} {nL : Nat} {ret : Option FieldType} {own nm : String} {d mc ms pc : Nat}
theorem ax_P_set {h h' : ax_H} {H H1 : Heap} {a : Nat} (hP : ax_P g h H) (hn : h'.1 = h.1) (ho : ∀ b, b ≠ a → ax_e g h' b = ax_e g h b) (ha : a < h.1) (hx : va_at g.2.2.2.1 vwCl (g.2.1 + a, ax_e g h' a) H1) (z : H1.size = H.size) (oq : ∀ q : Nat, q ≠ g.2.1 + a → H1[q]? = H[q]?) : ax_P g h' H1 := by
  have e := hP.1.set ax_w_D (ax_w_get ha) hx oq
  rw [ax_w_set hn rfl ho] at e
  exact ⟨e, by rw [z, hP.2.1, hn], by rw [hn]; exact hP.2.2⟩
theorem ax_at {h : ax_H} {H : Heap} {a : Nat} (hP : ax_P g h H) (ha : a < h.1) : va_at g.2.2.2.1 vwCl (g.2.1 + a, ax_e g h a) H := hP.1 a _ (ax_w_get ha)
theorem ax_vr {h : ax_H} {H : Heap} {a : Nat} (hP : ax_P g h H) (ha : a < h.1) : ax_v g (.ref a) = .ref (g.2.1 + a) := by
  show Value.ref (ax_ad g a) = _
  rw [ax_ad_lt (Nat.lt_trans ha hP.2.2)]
section
variable {p : Program} {e : Env} {s : State} {m : MethodId} {args : Array Value} {below : List Frame} {meth : Method} {c : Code} {R : Room} {cells slots : Nat} {Q : State → Prop} {ls : Array Slot} {rest : List Value}
theorem ax_putW {h h' : ax_H} {H : Heap} {locs : List Loc} {a ci index k N : Nat} {C : String} {T : u_T} {ty0 : Nat → FieldType} {ty : FieldType} {v : Value} (V : ax_V g cc nL ret own nm p s m args meth c) (hP : ax_P g h H) (hS0 : va_S (ax_A g) s.heap H locs) (ha : a < h.1) (hs : (h.2.1 a).1 = ci) (hci : ci < 11) (hc : vwCl[ci]? = some (C, T, N)) (hin : ∀ w ∈ u_ws C T N, w ∈ lw_gd) (hty : ∀ k, k < N → parseFieldDescriptor (T k).2.2.1 = some (ty0 k)) (hnm : ∀ a, a < N → ∀ b, b < N → a ≠ b → (T a).2.1 ≠ (T b).2.1) (hk : k < N) (hw : Cond.fieldLink own index (T k).1 (T k).2.1 (T k).2.2.1 ∈ lw_gd) (hfin : (T k).2.2.2 = false ∨ ((T k).2.2.2 = true ∧ nm = "<init>" ∧ (T k).1 = own)) (hd0 : parseFieldDescriptor (T k).2.2.1 = some ty) (hn : narrow ty v = v) (hfit : fits ty v = true) (hlen : k < (ax_ft ci).length) (hd : decode cc pc = .ok (.putfield index, 3)) (hn' : h'.1 = h.1) (hs' : h'.2.1 a = h.2.1 a) (hfl : ax_fl g h' (ax_ft ci) a = (ax_fl g h (ax_ft ci) a).set k v) (ho : ∀ b, b ≠ a → ax_e g h' b = ax_e g h b)
    (kk : ∀ (H1 : Heap) (locs1 : List Loc), ax_P g h' H1 → va_S (ax_A g) s.heap H1 locs1 → W p g.1 e R s m args below meth c H1 locs1 cells slots Q (F0 m (pc + 3) ls rest)) : W p g.1 e R s m args below meth c H locs cells slots Q (F0 m pc ls (v :: .ref (g.2.1 + a) :: rest)) := by
  obtain ⟨hx, hb, -, -, -, hown, hname, hts, hK, -, -⟩ := V
  have hap := va_apart (own := own) hts hin ty0 hty hnm hK hc
  have hat := ax_at hP ha
  rw [ax_e_obj hs hci] at hat
  obtain ⟨r, h1, cell, q1, q2, q3, q4⟩ := hat
  have hr : r = (C, T, N) := Option.some.inj (h1.symm.trans hc)
  subst hr
  obtain ⟨hSl, hfc, kC, hkC, hkind⟩ := hK.1 ci _ hc
  obtain ⟨cf, kf, fi, f, hi, hsl⟩ := hSl k hk
  have hst := (u_facts hfc hkC (u_lays hts hin hk) hi).1
  have hlay := hts _ (hin _ (u_in_lay hk))
  unfold u_lay at hlay
  have fin : ∀ H' : Heap, H'[g.2.1 + a]? = some (cell.setSlot f.slot v) → H'.size = H.size → (∀ q, q ≠ g.2.1 + a → H'[q]? = H[q]?) → W p g.1 e R s m args below meth c H' (locs ++ [⟨g.2.1 + a, f.slot⟩]) cells slots Q (F0 m (pc + 3) ls rest) := by
    intro H' e1 e2 e3
    rw [hsl] at e1
    refine kk H' _ (ax_P_set hP hn' ho ha ?_ e2 e3) (hS0.put e2 e3 (Nat.le_add_right _ _))
    rw [ax_e_obj (by rw [hs']; exact hs) hci, hfl]
    exact ⟨_, hc, t_OB.to (V := updV (vp_V (ax_fl g h (ax_ft ci) a)) k v) ⟨_, e1, q2, q3, t_set q4 hap hk v⟩ (fun j _ => vp_updV_set (by rw [ax_fl_len]; exact hlen) v j)⟩
  rcases hfin with hfin | ⟨hfin, hini, hdecl⟩
  · rw [if_neg (by rw [hfin]; decide)] at hlay
    have h6 := u_store hfc hkC hkind hlay hi hd0 hn hfit
    exact W.putK hx hb (f := f) ⟨hown, hts _ hw, ⟨_, _, _, hi⟩, hst⟩ (by rw [q2]; exact h6) q1 q3 (by rw [hsl]; exact k2_hasslot (q4 k hk)) rfl rfl hd fin
  · rw [if_pos hfin] at hlay
    have hcf : m.cls = cf := by
      obtain ⟨_, _, c', _, _, _, -, -, hf', -, -, -, hown2, -⟩ := Cond.laysFinal_spec hlay
      have e1 : c' = cf := by have := hi.symm.trans hf'; simp at this; exact this.1.symm
      rw [hdecl] at hown2
      rw [← e1]; exact Option.some.inj (hown.symm.trans hown2)
    have h6 := u_fits hfc hkC hkind (Or.inr hlay) hi hd0 hn hfit
    exact W.putFinK hx hb hown (hts _ hw) hi hst hcf (hname.trans hini) (by rw [q2]; exact h6) q1 q3 (by rw [hsl]; exact k2_hasslot (q4 k hk)) rfl rfl hd fin
end
/-! fields -/
/-- what the tables say of field k of class ci -/
def ax_F (own : String) (index ci k t : Nat) : Prop := ci < 11 ∧ (ax_ft ci)[k]? = some t ∧ ∃ (C : String) (T : u_T) (N : Nat) (ty0 : Nat → FieldType), vwCl[ci]? = some (C, T, N) ∧ (∀ w ∈ u_ws C T N, w ∈ lw_gd) ∧ (∀ k, k < N → parseFieldDescriptor (T k).2.2.1 = some (ty0 k)) ∧ (∀ a, a < N → ∀ b, b < N → a ≠ b → (T a).2.1 ≠ (T b).2.1) ∧ k < N ∧ Cond.fieldLink own index (T k).1 (T k).2.1 (T k).2.2.1 ∈ lw_gd
def ao_gi (ci k : Nat) : ax_O := fun _ σ K => match σ with
  | (pc, L, st, h, u1, u2) => match st with
    | .ref a :: r => (ax_s h a).1 = ci ∧ K (pc + 3, L, .int (ax_i h a k) :: r, h, u1, u2)
    | _ => False
def ao_gl (ci k : Nat) : ax_O := fun _ σ K => match σ with
  | (pc, L, st, h, u1, u2) => match st with
    | .ref a :: r => (ax_s h a).1 = ci ∧ K (pc + 3, L, .long (ax_l h a k) :: r, h, u1, u2)
    | _ => False
def ao_gr (ci k : Nat) : ax_O := fun _ σ K => match σ with
  | (pc, L, st, h, u1, u2) => match st with
    | .ref a :: r => (ax_s h a).1 = ci ∧ ∃ b, ax_r h a k = some b ∧ K (pc + 3, L, .ref b :: r, h, u1, u2)
    | _ => False
theorem ax_getW {p : Program} {e : Env} {s : State} {m : MethodId} {args : Array Value} {below : List Frame} {meth : Method} {c : Code} {R : Room} {cells slots : Nat} {Q : State → Prop} {ls : Array Slot} {rest : List Value} {h : ax_H} {H : Heap} {locs : List Loc} {a ci index k t : Nat} {v : Value} (V : ax_V g cc nL ret own nm p s m args meth c) (hP : ax_P g h H) (hF : ax_F own index ci k t) (hs : (ax_s h a).1 = ci) (hd : decode cc pc = .ok (.getfield index, 3)) (hv : (ax_fl g h (ax_ft ci) a)[k]? = some v)
    (kk : W p g.1 e R s m args below meth c H locs cells slots Q (F0 m (pc + 3) ls (v :: rest))) : W p g.1 e R s m args below meth c H locs cells slots Q (F0 m pc ls (ax_v g (.ref a) :: rest)) := by
  obtain ⟨hci, ht, C, T, N, ty0, hc, hin, hty, hnm, hk, hw⟩ := hF
  obtain ⟨ha, hs, -⟩ := ax_s_lt hs (by omega)
  rw [ax_vr hP ha]
  exact va_get V.1 V.2.1 V.2.2.2.2.2.2.2.1 hin V.2.2.2.2.2.1 V.2.2.2.2.2.2.2.2.1 hP.1 a ((ax_w_get ha).trans (by rw [ax_e_obj hs hci])) hc k hk (V.2.2.2.2.2.2.2.1 _ hw) (fun _ h => h) hv hd kk
theorem ak_gi {ci k index : Nat} (hF : ax_F own index ci k 0) (hd : decode cc pc = .ok (.getfield index, 3)) : ax_ok g cc nL ret own nm d mc ms pc (ao_gi ci k) := by
  intro p e s m args below meth c V Ret L st h u1 u2 K ho hK H locs ls hP hS hl
  dsimp only [ao_gi] at ho
  split at ho
  · exact ax_getW V hP hF ho.1 hd (ax_fl_get hF.2.1) (hK _ ho.2 H locs ls hP hS hl)
  · exact ho.elim
theorem ak_gl {ci k index : Nat} (hF : ax_F own index ci k 1) (hd : decode cc pc = .ok (.getfield index, 3)) : ax_ok g cc nL ret own nm d mc ms pc (ao_gl ci k) := by
  intro p e s m args below meth c V Ret L st h u1 u2 K ho hK H locs ls hP hS hl
  dsimp only [ao_gl] at ho
  split at ho
  · exact ax_getW V hP hF ho.1 hd (ax_fl_get hF.2.1) (hK _ ho.2 H locs ls hP hS hl)
  · exact ho.elim
theorem ak_gr {ci k index : Nat} (hF : ax_F own index ci k 2) (hd : decode cc pc = .ok (.getfield index, 3)) : ax_ok g cc nL ret own nm d mc ms pc (ao_gr ci k) := by
  intro p e s m args below meth c V Ret L st h u1 u2 K ho hK H locs ls hP hS hl
  dsimp only [ao_gr] at ho
  split at ho
  · rename_i a r
    obtain ⟨ho1, b, hr, ho⟩ := ho
    exact ax_getW V hP hF ho1 hd ((ax_fl_get hF.2.1).trans (by rw [hr]; rfl)) (hK _ ho H locs ls hP hS hl)
  · exact ho.elim
def ao_pi (ci k : Nat) : ax_O := fun _ σ K => match σ with
  | (pc, L, st, h, u1, u2) => match st with
    | .int x :: .ref a :: r => (ax_s h a).1 = ci ∧ K (pc + 3, L, r, ax_pi h a k x, u1, u2)
    | _ => False
/-- a boolean field -/
def ao_pz (ci k : Nat) : ax_O := fun _ σ K => match σ with
  | (pc, L, st, h, u1, u2) => match st with
    | .int x :: .ref a :: r => (x = 0 ∨ x = 1) ∧ (ax_s h a).1 = ci ∧ K (pc + 3, L, r, ax_pi h a k x, u1, u2)
    | _ => False
def ao_pl (ci k : Nat) : ax_O := fun _ σ K => match σ with
  | (pc, L, st, h, u1, u2) => match st with
    | .long x :: .ref a :: r => (ax_s h a).1 = ci ∧ K (pc + 3, L, r, ax_pl h a k x, u1, u2)
    | _ => False
def ao_pr (ci k : Nat) : ax_O := fun _ σ K => match σ with
  | (pc, L, st, h, u1, u2) => match st with
    | .ref b :: .ref a :: r => (ax_s h a).1 = ci ∧ K (pc + 3, L, r, ax_pr h a k (some b), u1, u2)
    | .null :: .ref a :: r => (ax_s h a).1 = ci ∧ K (pc + 3, L, r, ax_pr h a k none, u1, u2)
    | _ => False
/-- the field may be written here -/
def ax_Fw (own nm : String) (ci k : Nat) (ty : FieldType) : Prop := ∀ (C : String) (T : u_T) (N : Nat), vwCl[ci]? = some (C, T, N) → ((T k).2.2.2 = false ∨ ((T k).2.2.2 = true ∧ nm = "<init>" ∧ (T k).1 = own)) ∧ parseFieldDescriptor (T k).2.2.1 = some ty
theorem ax_u_ee {α : Type} {f : Nat → Nat → α} {a k : Nat} {v : α} : ax_u f a k v a k = v := by rw [ax_u_eq]; exact if_pos rfl
theorem ax_u_en {α : Type} {f : Nat → Nat → α} {a k j : Nat} {v : α} (h : j ≠ k) : ax_u f a k v a j = f a j := by rw [ax_u_eq]; exact if_neg h
theorem ax_get_lt {ts : List Nat} {k t : Nat} (h : ts[k]? = some t) : k < ts.length := (List.getElem?_eq_some_iff.mp h).1
theorem ak_pi {ci k index : Nat} (hF : ax_F own index ci k 0) (hw : ax_Fw own nm ci k .int) (hd : decode cc pc = .ok (.putfield index, 3)) : ax_ok g cc nL ret own nm d mc ms pc (ao_pi ci k) := by
  intro p e s m args below meth c V Ret L st h u1 u2 K ho hK H locs ls hP hS hl
  dsimp only [ao_pi] at ho
  split at ho
  · rename_i x a r
    obtain ⟨hci, ht, C, T, N, ty0, hc, hin, hty, hnm, hk, hwl⟩ := hF
    obtain ⟨ha, hs, -⟩ := ax_s_lt ho.1 (by omega)
    show W _ _ _ _ _ _ _ _ _ _ _ _ _ _ _ (F0 m pc ls (Value.int x :: ax_v g (.ref a) :: r.map (ax_v g)))
    rw [ax_vr hP ha]
    refine ax_putW (h' := ax_pi h a k x) V hP hS ha hs hci hc hin hty hnm hk hwl (hw _ _ _ hc).1 (hw _ _ _ hc).2 rfl rfl (ax_get_lt ht) hd rfl rfl ?_ (fun b hb => ax_e_cong rfl (ax_u_ne hb) rfl rfl) (fun H1 locs1 hP1 hS1 => hK _ ho.2 H1 locs1 ls hP1 hS1 hl)
    refine ax_fl_set ht ?_ (fun j u hj _ => ?_)
    · show Value.int (ax_u h.2.2.1 a k x a k) = _
      rw [ax_u_ee]
    · show (if u = 0 then Value.int (ax_u h.2.2.1 a k x a j) else _) = _
      rw [ax_u_en hj]; rfl
  · exact ho.elim
theorem ak_pz {ci k index : Nat} (hF : ax_F own index ci k 0) (hw : ax_Fw own nm ci k .boolean) (hd : decode cc pc = .ok (.putfield index, 3)) : ax_ok g cc nL ret own nm d mc ms pc (ao_pz ci k) := by
  intro p e s m args below meth c V Ret L st h u1 u2 K ho hK H locs ls hP hS hl
  dsimp only [ao_pz] at ho
  split at ho
  · rename_i x a r
    obtain ⟨hb01, ho⟩ := ho
    obtain ⟨hci, ht, C, T, N, ty0, hc, hin, hty, hnm, hk, hwl⟩ := hF
    obtain ⟨ha, hs, -⟩ := ax_s_lt ho.1 (by omega)
    show W _ _ _ _ _ _ _ _ _ _ _ _ _ _ _ (F0 m pc ls (Value.int x :: ax_v g (.ref a) :: r.map (ax_v g)))
    rw [ax_vr hP ha]
    have hnr : narrow .boolean (.int x) = .int x := by rcases hb01 with rfl | rfl <;> rfl
    have hft : fits .boolean (.int x) = true := by rcases hb01 with rfl | rfl <;> rfl
    refine ax_putW (h' := ax_pi h a k x) V hP hS ha hs hci hc hin hty hnm hk hwl (hw _ _ _ hc).1 (hw _ _ _ hc).2 hnr hft (ax_get_lt ht) hd rfl rfl ?_ (fun b hb => ax_e_cong rfl (ax_u_ne hb) rfl rfl) (fun H1 locs1 hP1 hS1 => hK _ ho.2 H1 locs1 ls hP1 hS1 hl)
    refine ax_fl_set ht ?_ (fun j u hj _ => ?_)
    · show Value.int (ax_u h.2.2.1 a k x a k) = _
      rw [ax_u_ee]
    · show (if u = 0 then Value.int (ax_u h.2.2.1 a k x a j) else _) = _
      rw [ax_u_en hj]; rfl
  · exact ho.elim
theorem ak_pl {ci k index : Nat} (hF : ax_F own index ci k 1) (hw : ax_Fw own nm ci k .long) (hd : decode cc pc = .ok (.putfield index, 3)) : ax_ok g cc nL ret own nm d mc ms pc (ao_pl ci k) := by
  intro p e s m args below meth c V Ret L st h u1 u2 K ho hK H locs ls hP hS hl
  dsimp only [ao_pl] at ho
  split at ho
  · rename_i x a r
    obtain ⟨hci, ht, C, T, N, ty0, hc, hin, hty, hnm, hk, hwl⟩ := hF
    obtain ⟨ha, hs, -⟩ := ax_s_lt ho.1 (by omega)
    show W _ _ _ _ _ _ _ _ _ _ _ _ _ _ _ (F0 m pc ls (Value.long x :: ax_v g (.ref a) :: r.map (ax_v g)))
    rw [ax_vr hP ha]
    refine ax_putW (h' := ax_pl h a k x) V hP hS ha hs hci hc hin hty hnm hk hwl (hw _ _ _ hc).1 (hw _ _ _ hc).2 rfl rfl (ax_get_lt ht) hd rfl rfl ?_ (fun b hb => ax_e_cong rfl rfl (ax_u_ne hb) rfl) (fun H1 locs1 hP1 hS1 => hK _ ho.2 H1 locs1 ls hP1 hS1 hl)
    refine ax_fl_set ht ?_ (fun j u hj _ => ?_)
    · show Value.long (ax_u h.2.2.2.1 a k x a k) = _
      rw [ax_u_ee]
    · show (if u = 0 then _ else if u = 1 then Value.long (ax_u h.2.2.2.1 a k x a j) else _) = _
      rw [ax_u_en hj]; rfl
  · exact ho.elim
theorem ak_pr {ci k index : Nat} {ty : FieldType} (hF : ax_F own index ci k 2) (hty2 : ty.isReference = true) (hw : ax_Fw own nm ci k ty) (hd : decode cc pc = .ok (.putfield index, 3)) : ax_ok g cc nL ret own nm d mc ms pc (ao_pr ci k) := by
  intro p e s m args below meth c V Ret L st h u1 u2 K ho hK H locs ls hP hS hl
  dsimp only [ao_pr] at ho
  have nr : ∀ b : Nat, narrow ty (.ref b) = .ref b := fun b => by cases ty <;> first | rfl | cases hty2
  have fr : ∀ b : Nat, fits ty (.ref b) = true := fun b => by cases ty <;> first | rfl | cases hty2
  have nn : narrow ty .null = .null := by cases ty <;> first | rfl | cases hty2
  have fn : fits ty .null = true := by cases ty <;> first | rfl | cases hty2
  split at ho
  · rename_i b a r
    obtain ⟨hci, ht, C, T, N, ty0, hc, hin, hty, hnm, hk, hwl⟩ := hF
    obtain ⟨ha, hs, -⟩ := ax_s_lt ho.1 (by omega)
    show W _ _ _ _ _ _ _ _ _ _ _ _ _ _ _ (F0 m pc ls (Value.ref (ax_ad g b) :: ax_v g (.ref a) :: r.map (ax_v g)))
    rw [ax_vr hP ha]
    refine ax_putW (h' := ax_pr h a k (some b)) V hP hS ha hs hci hc hin hty hnm hk hwl (hw _ _ _ hc).1 (hw _ _ _ hc).2 (nr _) (fr _) (ax_get_lt ht) hd rfl rfl ?_ (fun b hb => ax_e_cong rfl rfl rfl (ax_u_ne hb)) (fun H1 locs1 hP1 hS1 => hK _ ho.2 H1 locs1 ls hP1 hS1 hl)
    refine ax_fl_set ht ?_ (fun j u hj _ => ?_)
    · show va_rf ((ax_u h.2.2.2.2 a k (some b) a k).map (ax_ad g)) = _
      rw [ax_u_ee]; rfl
    · show (if u = 0 then _ else if u = 1 then _ else va_rf ((ax_u h.2.2.2.2 a k (some b) a j).map (ax_ad g))) = _
      rw [ax_u_en hj]; rfl
  · rename_i a r
    obtain ⟨hci, ht, C, T, N, ty0, hc, hin, hty, hnm, hk, hwl⟩ := hF
    obtain ⟨ha, hs, -⟩ := ax_s_lt ho.1 (by omega)
    show W _ _ _ _ _ _ _ _ _ _ _ _ _ _ _ (F0 m pc ls (Value.null :: ax_v g (.ref a) :: r.map (ax_v g)))
    rw [ax_vr hP ha]
    refine ax_putW (h' := ax_pr h a k none) V hP hS ha hs hci hc hin hty hnm hk hwl (hw _ _ _ hc).1 (hw _ _ _ hc).2 nn fn (ax_get_lt ht) hd rfl rfl ?_ (fun b hb => ax_e_cong rfl rfl rfl (ax_u_ne hb)) (fun H1 locs1 hP1 hS1 => hK _ ho.2 H1 locs1 ls hP1 hS1 hl)
    refine ax_fl_set ht ?_ (fun j u hj _ => ?_)
    · show va_rf ((ax_u h.2.2.2.2 a k none a k).map (ax_ad g)) = _
      rw [ax_u_ee]; rfl
    · show (if u = 0 then _ else if u = 1 then _ else va_rf ((ax_u h.2.2.2.2 a k none a j).map (ax_ad g))) = _
      rw [ax_u_en hj]; rfl
  · exact ho.elim
end
