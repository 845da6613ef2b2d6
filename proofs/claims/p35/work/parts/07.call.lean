section
variable {g : ax_G} {cc : ByteArray} {nL : Nat} {ret : Option FieldType} {own nm : String} {d mc ms pc : Nat}
theorem ax_good : ∀ w ∈ lw_gd, goodWord w = true := fun _ h => (List.mem_filter.mp h).2
theorem ax_gi {ws : List Cond} (h : ∀ w ∈ ws, w ∈ lw_gd) : GoodIn lw_gd ws := fun w hw => ⟨h w hw, good_of_word (ax_good w (h w hw))⟩
/-- how a contract begins -/
def ax_C (g : ax_G) (as : List Value) (h : ax_H) : Array Value → State → Prop := va_Pc (as.map (ax_v g)) (fun U => ax_K g U ∧ g.2.1 ≤ U.heap.size ∧ ax_Z g U U.heap ∧ ax_P g h U.heap)
/-- THE CONTRACT: from heap h with the arguments as, y returns, and Ret holds of answer and heap -/
def ax_M (g : ax_G) (d mc ms : Nat) (y : MethodName) (cc : ByteArray) (nL : Nat) (ret : Option FieldType) (as : List Value) (h : ax_H) (Ret : Option Value → ax_H → Prop) : Prop := Met g.1 y (.code y cc nL ret :: lw_gd) (ax_rm d mc ms) (ax_C g as h) (ax_Q g Ret) mc ms (ax_A g)
/-- a contract out of a walk of the abstract machine -/
theorem ax_meth {y : MethodName} {as : List Value} {h : ax_H} {Ret : Option Value → ax_H → Prop} {tbl : Nat → ax_O} (hy : plainName y.cls = true) (hlen : (lg_sl as).length ≤ nL) (hok : ∀ pc, ax_ok g cc nL ret y.cls y.name d mc ms pc (tbl pc)) (hw : ∀ A : ax_S → Prop, (∀ (σ : ax_S) (K : ax_S → Prop), tbl σ.1 Ret σ K → (∀ σ', K σ' → A σ') → A σ) → A (0, ax_en as nL, [], h, 0, 0)) : ax_M g d mc ms y cc nL ret as h Ret := by
  refine Met.ofW (cc := cc) (maxL := nL) (ret := ret) hy rfl ?_
  intro p e s m args below meth c s₁ B hml hv
  obtain ⟨rfl, hK, hbs, hZ, hP⟩ := hv
  have hts := atoms_spec (ws := .code y cc nL ret :: lw_gd) B.pre
  have hnm : meth.name = y.name := (name_of_methodNamed B.named B.method).1
  have V : ax_V g cc nL ret y.cls y.name p s m (as.map (ax_v g)).toArray meth c := ⟨B.exec, B.bytes, B.returns, B.notSynchronized, hml, findClass_of_methodNamed B.named, hnm, fun w hw => hts w (List.mem_cons_of_mem _ hw), hK, hbs, hZ⟩
  have key := hw (ax_W g nL d mc ms p e s m (as.map (ax_v g)).toArray below meth c Ret) (fun σ K ho hK => by
    obtain ⟨pc, L, st, h, u1, u2⟩ := σ
    exact hok pc p e s m _ below meth c V Ret L st h u1 u2 _ ho hK)
  have hsl : ∀ vs : List Value, (lg_sl (vs.map (ax_v g))).length = (lg_sl vs).length := by
    intro vs
    induction vs with
    | nil => rfl
    | cons v r ih =>
      unfold lg_sl at ih ⊢
      rw [List.map_cons, List.flatMap_cons, List.flatMap_cons, List.length_append, List.length_append, ih, ax_v_cat]
      split <;> rfl
  have hl := lv_entry (as.map (ax_v g)) (n := nL) (by rw [hsl]; exact hlen)
  rw [lg_entry_eq]
  refine key s.heap [] _ hP va_S.rf ⟨hl.1, hl.2.1, fun q hq => hl.2.2 q ?_⟩
  obtain ⟨j, w⟩ := q
  have hmap : ∀ (vs : List Value) (n : Nat), (ax_en vs n).map (Option.map (ax_v g)) = ax_en (vs.map (ax_v g)) n := by
    intro vs
    induction vs with
    | nil => intro n; simp [ax_en]
    | cons v r ih =>
      intro n
      rw [List.map_cons]
      unfold ax_en
      rw [ax_v_cat]
      split
      · simp [ih]
      · simp [ih]
  rw [show ((0, ax_en as nL, [], h, 0, 0) : ax_S).2.1 = ax_en as nL from rfl, hmap] at hq
  exact ax_en_mem _ _ _ _ _ hq
/-! returns -/
def ax_rb (mc ms u1 u2 : Nat) (X : Prop) : Prop := bif Nat.beq u1 0 && Nat.beq u2 0 then X else (u1 ≤ mc ∧ u2 ≤ ms) ∧ X
theorem ax_rb_use {mc ms u1 u2 : Nat} {X : Prop} (h : ax_rb mc ms u1 u2 X) : (u1 ≤ mc ∧ u2 ≤ ms) ∧ X := by
  unfold ax_rb at h
  cases h1 : Nat.beq u1 0 <;> cases h2 : Nat.beq u2 0 <;> rw [h1, h2] at h
  · exact h
  · exact h
  · exact h
  · rw [Nat.eq_of_beq_eq_true h1, Nat.eq_of_beq_eq_true h2]
    exact ⟨⟨Nat.zero_le _, Nat.zero_le _⟩, h⟩
def ao_iret (mc ms : Nat) : ax_O := fun Ret σ _ => match σ with
  | (pc, L, st, h, u1, u2) => match st with
    | [.int x] => ax_rb mc ms u1 u2 <| Ret (some (.int x)) h
    | _ => False
def ao_zret (mc ms : Nat) : ax_O := fun Ret σ _ => match σ with
  | (pc, L, st, h, u1, u2) => match st with
    | [.int x] => ax_rb mc ms u1 u2 <| (x = 0 ∨ x = 1) ∧ Ret (some (.int x)) h
    | _ => False
def ao_lret (mc ms : Nat) : ax_O := fun Ret σ _ => match σ with
  | (pc, L, st, h, u1, u2) => match st with
    | [.long x] => ax_rb mc ms u1 u2 <| Ret (some (.long x)) h
    | _ => False
def ao_aret (mc ms : Nat) : ax_O := fun Ret σ _ => match σ with
  | (pc, L, st, h, u1, u2) => match st with
    | [.ref x] => ax_rb mc ms u1 u2 <| Ret (some (.ref x)) h
    | [.null] => ax_rb mc ms u1 u2 <| Ret (some .null) h
    | _ => False
def ao_vret (mc ms : Nat) : ax_O := fun Ret σ _ => match σ with
  | (pc, L, st, h, u1, u2) => match st with
    | [] => ax_rb mc ms u1 u2 <| Ret none h
    | _ => False
theorem ax_qr {Ret : Option Value → ax_H → Prop} {s : State} {args : Array Value} {H : Heap} {locs : List Loc} {h : ax_H} {v : Option Value} (hP : ax_P g h H) (hS : va_S (ax_A g) s.heap H locs) (hR : Ret v h) : ∀ t : State, t.heap = H → s.WarmedH t.vm → ax_Q g Ret args s (.returned (v.map (ax_v g))) t := fun t ht _ => ⟨⟨v, h, rfl, hR, by rw [ht]; exact hP⟩, hS.F ht⟩
theorem ak_iret (hr : ret = some .int) (hd : decode cc pc = .ok (.ireturn, 1)) : ax_ok g cc nL ret own nm d mc ms pc (ao_iret mc ms) := by
  intro p e s m args below meth c V Ret L st h u1 u2 K ho hK H locs ls hP hS hl
  dsimp only [ao_iret] at ho
  split at ho
  · rename_i x
    have ho := ax_rb_use ho
    refine W.widen ho.1.1 ho.1.2 ?_
    exact W.iret V.1 V.2.1 (V.2.2.1.trans hr) (ax_qr (v := some (.int x)) hP hS ho.2) hS.2.2 hd V.2.2.2.1
  · exact ho.elim
theorem ak_zret (hr : ret = some .boolean) (hd : decode cc pc = .ok (.ireturn, 1)) : ax_ok g cc nL ret own nm d mc ms pc (ao_zret mc ms) := by
  intro p e s m args below meth c V Ret L st h u1 u2 K ho hK H locs ls hP hS hl
  dsimp only [ao_zret] at ho
  split at ho
  · rename_i x
    have ho := ax_rb_use ho
    refine W.widen ho.1.1 ho.1.2 ?_
    exact W.zret V.1 V.2.1 (V.2.2.1.trans hr) (by rcases ho.2.1 with rfl | rfl <;> rfl) (ax_qr (v := some (.int x)) hP hS ho.2.2) hS.2.2 hd V.2.2.2.1
  · exact ho.elim
theorem ak_lret (hr : ret = some .long) (hd : decode cc pc = .ok (.lreturn, 1)) : ax_ok g cc nL ret own nm d mc ms pc (ao_lret mc ms) := by
  intro p e s m args below meth c V Ret L st h u1 u2 K ho hK H locs ls hP hS hl
  dsimp only [ao_lret] at ho
  split at ho
  · rename_i x
    have ho := ax_rb_use ho
    refine W.widen ho.1.1 ho.1.2 ?_
    exact W.lret V.1 V.2.1 (V.2.2.1.trans hr) (ax_qr (v := some (.long x)) hP hS ho.2) hS.2.2 hd V.2.2.2.1
  · exact ho.elim
theorem ak_aret {rt : FieldType} (hr : ret = some rt) (hrt : (∃ n, rt = .object n) ∨ ∃ t, rt = .array t) (hd : decode cc pc = .ok (.areturn, 1)) : ax_ok g cc nL ret own nm d mc ms pc (ao_aret mc ms) := by
  intro p e s m args below meth c V Ret L st h u1 u2 K ho hK H locs ls hP hS hl
  dsimp only [ao_aret] at ho
  split at ho
  · rename_i x
    have ho := ax_rb_use ho
    refine W.widen ho.1.1 ho.1.2 ?_
    exact W.aret V.1 V.2.1 (V.2.2.1.trans hr) hrt (Or.inr ⟨_, rfl⟩) (ax_qr (v := some (.ref x)) hP hS ho.2) hS.2.2 hd V.2.2.2.1
  · have ho := ax_rb_use ho
    refine W.widen ho.1.1 ho.1.2 ?_
    exact W.aret V.1 V.2.1 (V.2.2.1.trans hr) hrt (Or.inl rfl) (ax_qr (v := some .null) hP hS ho.2) hS.2.2 hd V.2.2.2.1
  · exact ho.elim
theorem ak_vret (hr : ret = none) (hd : decode cc pc = .ok (.return_, 1)) : ax_ok g cc nL ret own nm d mc ms pc (ao_vret mc ms) := by
  intro p e s m args below meth c V Ret L st h u1 u2 K ho hK H locs ls hP hS hl
  dsimp only [ao_vret] at ho
  split at ho
  · have ho := ax_rb_use ho
    refine W.widen ho.1.1 ho.1.2 ?_
    exact W.vret V.1 V.2.1 (V.2.2.1.trans hr) (ax_qr (v := none) hP hS ho.2) hS.2.2 hd V.2.2.2.1
  · exact ho.elim
/-! calls -/
def ax_sp : Nat → List Value → List Value → Option (List Value × List Value)
  | 0, acc, st => some (acc, st)
  | n + 1, acc, v :: st => ax_sp n (v :: acc) st
  | _ + 1, _, [] => none
theorem ax_sp_eq : ∀ (n : Nat) (acc st as rest : List Value), ax_sp n acc st = some (as, rest) → ∃ bs, as = bs ++ acc ∧ bs.length = n ∧ st = bs.reverse ++ rest := by
  intro n
  induction n with
  | zero => intro acc st as rest h; cases h; exact ⟨[], rfl, rfl, rfl⟩
  | succ n ih =>
    intro acc st as rest h
    cases st with
    | nil => cases h
    | cons v st =>
      obtain ⟨bs, h1, h2, h3⟩ := ih (v :: acc) st as rest h
      refine ⟨bs ++ [v], by rw [h1]; simp, by simp [h2], by rw [h3]; simp⟩
/-- the answer of a call, by its kind: 0 none, 1 int, 2 long, 3 a reference -/
def ax_rk (rk : Nat) (v : Option Value) (k : List Value → Prop) : Prop := match rk with
  | 0 => v = none ∧ k []
  | 1 => ∃ r : Int32, v = some (.int r) ∧ k [.int r]
  | 2 => ∃ r : Int64, v = some (.long r) ∧ k [.long r]
  | _ => (∃ b : Nat, v = some (.ref b) ∧ k [.ref b]) ∨ (v = some .null ∧ k [.null])
theorem ax_rk_use {rk : Nat} {v : Option Value} {k : List Value → Prop} (h : ax_rk rk v k) : k v.toList := by
  unfold ax_rk at h
  split at h
  · obtain ⟨rfl, h⟩ := h; exact h
  · obtain ⟨r, rfl, h⟩ := h; exact h
  · obtain ⟨r, rfl, h⟩ := h; exact h
  · rcases h with ⟨b, rfl, h⟩ | ⟨rfl, h⟩ <;> exact h
/-- a call: y, its code, locals and type; n values are taken; ci: the receiver's class (99: a static method) -/
def ax_rc (ci : Nat) (as : List Value) (h : ax_H) (X : Prop) : Prop := bif Nat.beq ci 99 then X else match as with
  | .ref a :: _ => (ax_s h a).1 = ci ∧ X
  | _ => False
theorem ax_rc_use {ci : Nat} {as : List Value} {h : ax_H} {X : Prop} (hx : ax_rc ci as h X) : (ci = 99 ∨ ∃ a bs, as = .ref a :: bs ∧ (ax_s h a).1 = ci) ∧ X := by
  unfold ax_rc at hx
  cases hb : Nat.beq ci 99 with
  | true => rw [hb] at hx; exact ⟨Or.inl (Nat.eq_of_beq_eq_true hb), hx⟩
  | false =>
    rw [hb] at hx
    dsimp only [cond] at hx
    split at hx
    · rename_i a bs; exact ⟨Or.inr ⟨a, bs, rfl, hx.1⟩, hx.2⟩
    · exact hx.elim
def ao_inv (g : ax_G) (d' ci rk : Nat) (y : MethodName) (cc : ByteArray) (nL : Nat) (ret : Option FieldType) (n mc mx ms my : Nat) : ax_O := fun _ σ K => match σ with
  | (pc, L, st, h, u1, u2) => match ax_sp n [] st with
    | some (as, rest) => bif Nat.ble (rest.map Value.category).sum 8 && (Nat.ble (u1 + mc) mx && Nat.ble (u2 + ms) my) then ax_rc ci as h (ax_M g d' mc ms y cc nL ret as h (fun v h' => ax_rk rk v (fun vs => K (pc + 3, L, vs ++ rest, h', u1 + mc, u2 + ms)))) else False
    | none => False
theorem ax_bif3 {a b c : Nat} {d e f : Nat} {X : Prop} (h : bif Nat.ble a b && (Nat.ble c d && Nat.ble e f) then X else False) : (a ≤ b ∧ c ≤ d ∧ e ≤ f) ∧ X := by
  cases h1 : Nat.ble a b <;> cases h2 : Nat.ble c d <;> cases h3 : Nat.ble e f <;> rw [h1, h2, h3] at h <;> first | exact h.elim | exact ⟨⟨Nat.le_of_ble_eq_true h1, Nat.le_of_ble_eq_true h2, Nat.le_of_ble_eq_true h3⟩, h⟩
theorem ax_call {p : Program} {e : Env} {s : State} {m : MethodId} {args : Array Value} {below : List Frame} {meth : Method} {c : Code} {R : Room} {cells slots mc' ms' : Nat} {Q : State → Prop} {ls : Array Slot} {rest st0 : List Value} {H : Heap} {locs : List Loc} {Ret' : Option Value → ax_H → Prop} {a : Array Value} (hr : va_Run p g.1 e R s m args below meth c H locs cells slots mc' ms' (F0 m pc ls st0) rest (ax_Q g Ret' a) (ax_A g)) (hS : va_S (ax_A g) s.heap H locs)
    (kk : ∀ (v : Option Value) (h' : ax_H) (H1 : Heap) (locs1 : List Loc), Ret' v h' → ax_P g h' H1 → va_S (ax_A g) s.heap H1 locs1 → W p g.1 e R s m args below meth c H1 locs1 (cells + mc') (slots + ms') Q (F0 m (pc + 3) ls ((v.map (ax_v g)).toList ++ rest))) : W p g.1 e R s m args below meth c H locs cells slots Q (F0 m pc ls st0) := by
  intro T hT X
  obtain ⟨v, st₀, t, T', L, h0, X', hL, e1, e2, ⟨⟨v', h', hv, hp, hb⟩, hz, hk⟩, st⟩ := hr T hT X
  cases hv
  rw [h0] at hz hk
  obtain ⟨t2, a1, b1⟩ := kk v' h' T'.heap (locs ++ L) hp (by rw [e1]; exact hb)
    ⟨Nat.le_trans hS.1 (by rw [e1]; exact hz), fun q h1 h2 => by rw [e1, hk q (Nat.lt_of_lt_of_le h1 hS.1) h2]; exact hS.2.1 q h1 h2, fun q hq => by
      rcases List.mem_append.mp hq with h | h
      · exact hS.2.2 q h
      · exact hL q h⟩ T' rfl X'
  exact ⟨t2, st t2 a1, b1⟩
theorem ax_pre {y : MethodName} {cc' : ByteArray} {nL' : Nat} {ret' : Option FieldType} (hcode : Cond.code y cc' nL' ret' ∈ lw_gd) : ∀ w ∈ (Cond.code y cc' nL' ret' :: lw_gd), w ∈ lw_gd := fun w h => (List.mem_cons.mp h).elim (fun e => e ▸ hcode) id
theorem ax_PreS {p : Program} {s : State} {m : MethodId} {args : Array Value} {meth : Method} {c : Code} {h : ax_H} {H : Heap} {locs : List Loc} {as : List Value} (V : ax_V g cc nL ret own nm p s m args meth c) (hP : ax_P g h H) (hS : va_S (ax_A g) s.heap H locs) : FrameBlind (ax_C g as h) ∧ ∀ U : State, U.heap = H → s.WarmedH U.vm → ax_C g as h (as.map (ax_v g)).toArray U := by
  refine ⟨fun a U f mk q => ?_, fun U hU hW => ?_⟩
  · obtain ⟨q0, q1, q2, q3, q4⟩ := q
    exact ⟨q0, va_K.moved (u := U) (U := U.calling f mk a) (Vm.Alike.refl U.vm) q1, q2, ax_Z_moved (s := U) (U := U.calling f mk a) q3 (Vm.Alike.refl U.vm) (Or.inl rfl) (fun _ _ _ => rfl), q4⟩
  · obtain ⟨-, -, -, -, -, -, -, -, hK, hb, hZ⟩ := V
    exact ⟨rfl, va_K.moved hW.alike hK, by rw [hU]; exact Nat.le_trans hb hS.1, by rw [hU]; exact ax_Z_moved hZ hW.alike (Or.inr hW) (fun a ha hn => hS.2.1 a ha hn), by rw [hU]; exact hP⟩
theorem ax_rmL {d' d nL' : Nat} (h : d' < d) (hn : nL' ≤ 22) (mc' ms' mc ms : Nat) : (ax_rm d' mc' ms').frames + 1 ≤ (ax_rm d mc ms).frames ∧ 8 + (nL' + 11) + (ax_rm d' mc' ms').locals ≤ (ax_rm d mc ms).locals := by
  constructor
  · exact h
  · show 8 + (nL' + 11) + (41 * d' + 32) ≤ 41 * d + 32
    omega
theorem ax_sum (rest : List Value) : ((rest.map (ax_v g)).map fun v => v.category).sum = (rest.map Value.category).sum := by
  rw [List.map_map]
  congr 1
  exact List.map_congr_left (fun v _ => ax_v_cat g v)
/-- a static method -/
theorem ak_invS {d' rk : Nat} (hdl : d' < d) {y : MethodName} {cc' : ByteArray} {nL' n mc' ms' index : Nat} {ret' : Option FieldType} (hn' : nL' ≤ 22) (hl : Cond.methodLink own index y ∈ lw_gd) (hst : Cond.static y ∈ lw_gd) (hi : Cond.initialized y.cls ∈ lw_gd) (hcode : Cond.code y cc' nL' ret' ∈ lw_gd) (hdd : y.cls ≠ "java/lang/invoke/MethodHandle" ∧ y.cls ≠ "java/lang/invoke/VarHandle" ∧ (parseMethodDescriptor y.desc).map (fun d => d.parameters.length) = some n) (hd : decode cc pc = .ok (.invokestatic index, 3)) : ax_ok g cc nL ret own nm d mc ms pc (ao_inv g d' 99 rk y cc' nL' ret' n mc' mc ms' ms) := by
  intro p e s m args below meth c V Ret L st h u1 u2 K ho hK H locs ls hP hS hlr
  dsimp only [ao_inv] at ho
  split at ho
  · rename_i as rest hsp
    obtain ⟨⟨hrest, hc1, hc2⟩, ho⟩ := ax_bif3 ho
    obtain ⟨-, hM⟩ := ax_rc_use ho
    obtain ⟨bs, h1, h2, h3⟩ := ax_sp_eq _ _ _ _ _ hsp
    rw [List.append_nil] at h1
    subst h1
    refine ax_call (mc' := mc') (ms' := ms') (rest := rest.map (ax_v g)) (va_runS (As := as.map (ax_v g)) (n := n) ⟨V.1, V.2.1, V.2.2.2.2.1, V.2.2.2.2.2.1, V.2.2.2.2.2.2.2.1⟩ hM (va_cwS n V.2.2.2.2.2.2.2.1 (ax_gi ?_) rfl rfl rfl hdd (ax_rmL hdl hn' mc' ms' mc ms)) (ax_PreS V hP hS) rfl (by rw [List.length_map]; exact h2) hlr.1 (by show List.map (ax_v g) st = _; rw [h3, List.map_append, List.map_reverse]) (by show 0 + _ ≤ 8; rw [Nat.zero_add, ax_sum]; exact hrest) hd ⟨hc1, hc2⟩) hS ?_
    · intro w hw
      rcases List.mem_append.mp hw with hw | hw
      · simp only [List.mem_cons, List.not_mem_nil, or_false] at hw
        rcases hw with rfl | rfl | rfl
        · exact hl
        · exact hst
        · exact hi
      · exact ax_pre hcode w hw
    · intro v h' H1 locs1 hR hP1 hS1
      have := hK _ (ax_rk_use hR) H1 locs1 ls hP1 hS1 hlr
      cases v <;> exact this
  · exact ho.elim
end
