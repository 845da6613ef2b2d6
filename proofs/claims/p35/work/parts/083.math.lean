section
variable {g : ax_G} {cc : ByteArray} {nL : Nat} {ret : Option FieldType} {own nm : String} {d mc ms pc : Nat}
def ao_imax : ax_O := fun _ σ K => match σ with
  | (pc, L, st, h, u1, u2) => match st with
    | .int y :: .int x :: r => bif Nat.ble (r.map Value.category).sum 8 && (Nat.beq u1 0 && Nat.beq u2 0) then K (pc + 3, L, .int (if x < y then y else x) :: r, h, u1, u2) else False
    | _ => False
def ao_imin : ax_O := fun _ σ K => match σ with
  | (pc, L, st, h, u1, u2) => match st with
    | .int y :: .int x :: r => bif Nat.ble (r.map Value.category).sum 8 && (Nat.beq u1 0 && Nat.beq u2 0) then K (pc + 3, L, .int (if y < x then y else x) :: r, h, u1, u2) else False
    | _ => False
def ao_iabs : ax_O := fun _ σ K => match σ with
  | (pc, L, st, h, u1, u2) => match st with
    | .int x :: r => bif Nat.ble (r.map Value.category).sum 8 && (Nat.beq u1 0 && Nat.beq u2 0) then K (pc + 3, L, .int (if 0 ≤ x then x else 0 - x) :: r, h, u1, u2) else False
    | _ => False
def ao_lmax : ax_O := fun _ σ K => match σ with
  | (pc, L, st, h, u1, u2) => match st with
    | .long y :: .long x :: r => bif Nat.ble (r.map Value.category).sum 8 && (Nat.beq u1 0 && Nat.beq u2 0) then K (pc + 3, L, .long (if y < x then x else y) :: r, h, u1, u2) else False
    | _ => False
theorem ax_bifm {a b c d : Nat} {X : Prop} (h : bif Nat.ble a b && (Nat.beq c 0 && Nat.beq d 0) then X else False) : (a ≤ b ∧ c = 0 ∧ d = 0) ∧ X := by
  cases h1 : Nat.ble a b <;> cases h2 : Nat.beq c 0 <;> cases h3 : Nat.beq d 0 <;> rw [h1, h2, h3] at h <;> first | exact h.elim | exact ⟨⟨Nat.le_of_ble_eq_true h1, Nat.eq_of_beq_eq_true h2, Nat.eq_of_beq_eq_true h3⟩, h⟩
theorem ax_mr {r : List Value} (hr : (r.map Value.category).sum ≤ 8) : ((r.map (ax_v g)).map fun v => v.category).sum + 13 ≤ (ax_rm d mc ms).locals := by
  rw [ax_sum]
  show _ ≤ 41 * d + 32
  omega
theorem ak_imax {index : Nat} (hdl : 0 < d) (hl : Cond.methodLink own index Lib.Math.max.name ∈ lw_gd) (hst : Cond.static Lib.Math.max.name ∈ lw_gd) (hi : Cond.initialized "java/lang/Math" ∈ lw_gd) (hc : Cond.code Lib.Math.max.name Lib.Math.max.code 2 (some .int) ∈ lw_gd) (hd : decode cc pc = .ok (.invokestatic index, 3)) : ax_ok g cc nL ret own nm d mc ms pc ao_imax := by
  intro p e s m args below meth c V Ret L st h u1 u2 K ho hK H locs ls hP hS hlr
  dsimp only [ao_imax] at ho
  split at ho
  · obtain ⟨⟨hr, rfl, rfl⟩, ho⟩ := ax_bifm ho
    have ht := V.2.2.2.2.2.2.2.1
    exact va_mmax V.1 V.2.1 (V.2.2.2.2.1.trans hlr.1.symm) V.2.2.2.2.2.1 (ht _ hl) (ht _ hst) (ht _ hi) (ht _ hc) (show 1 ≤ (ax_rm d mc ms).frames from hdl) (ax_mr hr) (Nat.zero_le _) (Nat.zero_le _) hd (hK _ ho H locs ls hP hS hlr)
  · exact ho.elim
theorem ak_imin {index : Nat} (hdl : 0 < d) (hl : Cond.methodLink own index Lib.Math.min.name ∈ lw_gd) (hst : Cond.static Lib.Math.min.name ∈ lw_gd) (hi : Cond.initialized "java/lang/Math" ∈ lw_gd) (hc : Cond.code Lib.Math.min.name Lib.Math.min.code 2 (some .int) ∈ lw_gd) (hd : decode cc pc = .ok (.invokestatic index, 3)) : ax_ok g cc nL ret own nm d mc ms pc ao_imin := by
  intro p e s m args below meth c V Ret L st h u1 u2 K ho hK H locs ls hP hS hlr
  dsimp only [ao_imin] at ho
  split at ho
  · obtain ⟨⟨hr, rfl, rfl⟩, ho⟩ := ax_bifm ho
    have ht := V.2.2.2.2.2.2.2.1
    exact va_mmin V.1 V.2.1 (V.2.2.2.2.1.trans hlr.1.symm) V.2.2.2.2.2.1 (ht _ hl) (ht _ hst) (ht _ hi) (ht _ hc) (show 1 ≤ (ax_rm d mc ms).frames from hdl) (ax_mr hr) (Nat.zero_le _) (Nat.zero_le _) hd (hK _ ho H locs ls hP hS hlr)
  · exact ho.elim
theorem ak_iabs {index : Nat} (hdl : 0 < d) (hl : Cond.methodLink own index Lib.Math.abs.name ∈ lw_gd) (hst : Cond.static Lib.Math.abs.name ∈ lw_gd) (hi : Cond.initialized "java/lang/Math" ∈ lw_gd) (hc : Cond.code Lib.Math.abs.name Lib.Math.abs.code 1 (some .int) ∈ lw_gd) (hd : decode cc pc = .ok (.invokestatic index, 3)) : ax_ok g cc nL ret own nm d mc ms pc ao_iabs := by
  intro p e s m args below meth c V Ret L st h u1 u2 K ho hK H locs ls hP hS hlr
  dsimp only [ao_iabs] at ho
  split at ho
  · obtain ⟨⟨hr, rfl, rfl⟩, ho⟩ := ax_bifm ho
    have ht := V.2.2.2.2.2.2.2.1
    exact va_mabs V.1 V.2.1 (V.2.2.2.2.1.trans hlr.1.symm) V.2.2.2.2.2.1 (ht _ hl) (ht _ hst) (ht _ hi) (ht _ hc) (show 1 ≤ (ax_rm d mc ms).frames from hdl) (ax_mr hr) (Nat.zero_le _) (Nat.zero_le _) hd (hK _ ho H locs ls hP hS hlr)
  · exact ho.elim
theorem ak_lmax {index : Nat} (hdl : 0 < d) (hl : Cond.methodLink own index Lib.MathLoose.max_long.x ∈ lw_gd) (hst : Cond.static Lib.MathLoose.max_long.x ∈ lw_gd) (hi : Cond.initialized "java/lang/Math" ∈ lw_gd) (hc : Cond.code Lib.MathLoose.max_long.x Lib.MathLoose.max_long.code 4 (some .long) ∈ lw_gd) (hd : decode cc pc = .ok (.invokestatic index, 3)) : ax_ok g cc nL ret own nm d mc ms pc ao_lmax := by
  intro p e s m args below meth c V Ret L st h u1 u2 K ho hK H locs ls hP hS hlr
  dsimp only [ao_lmax] at ho
  split at ho
  · rename_i y x r
    obtain ⟨⟨hr, rfl, rfl⟩, ho⟩ := ax_bifm ho
    have ht := V.2.2.2.2.2.2.2.1
    intro T hT X
    obtain ⟨vm', X', st⟩ := X.mathMaxLH V.1 V.2.2.2.2.2.1 (ht _ hl) (ht _ hst) (ht _ hi) (ht _ hc) (g := F0 m pc ls (.long y :: .long x :: r.map (ax_v g))) rfl (hlr.1.trans V.2.2.2.2.1.symm) (a := x) (b := y) (rest := r.map (ax_v g)) rfl (by rw [V.2.1]; exact hd) hdl (by
      show 2 * 0 + _ + 15 ≤ 41 * d + 32
      rw [ax_sum]; omega) (Nat.zero_le _) (Nat.zero_le _)
    obtain ⟨t, a1, b1⟩ := hK _ ho H locs ls hP hS hlr (T.setVm vm') hT X'
    exact ⟨t, st t a1, b1⟩
  · exact ho.elim
def ao_labs : ax_O := fun _ σ K => match σ with
  | (pc, L, st, h, u1, u2) => match st with
    | .long x :: r => bif Nat.ble (r.map Value.category).sum 8 && (Nat.beq u1 0 && Nat.beq u2 0) then K (pc + 3, L, .long (if 0 < x then x else if x = 0 then x else -x) :: r, h, u1, u2) else False
    | _ => False
theorem ax_labsH {p : Program} {l : Launch} {e : Env} {R : Room} {s T : State} {m : MethodId} {args : Array Value} {below : List Frame} {meth : Method} {c : Code} {locs : List Loc} {cells slots : Nat} (X : Stand p l e R s m args below meth c T locs cells slots) (hexec : p.tables.exec = Jvm.exec) {index : Nat} (hown : s.vm.findClass own = some m.cls)
    (hlink : (Cond.methodLink own index Lib.MathLoose.abs_long.x).before args s = true) (hstat : (Cond.static Lib.MathLoose.abs_long.x).before args s = true) (hinit : (Cond.initialized "java/lang/Math").before args s = true)
    (hcode : (Cond.code Lib.MathLoose.abs_long.x Lib.MathLoose.abs_long.code 2 (some .long)).before args s = true)
    {f : JFrame} (hg : f.method = m) (hsize : f.locals.size = c.maxLocals) {a : Int64} {rest : List Value} (hstack : f.stack = .long a :: rest) (hdg : decode c.code f.pc = .ok (.invokestatic index, 3))
    (hframes : 1 ≤ R.frames) (hlocals : 2 * f.monitorRoom + (rest.map fun v => v.category).sum + 13 ≤ R.locals) (hcells : cells ≤ R.cells) (hslots : slots ≤ R.slots) :
    ∃ vm', Stand p l e R s m args below meth c (T.setVm vm') locs cells slots ∧
      ∀ target, Steps p.tables e below ((T.setVm vm').setTop { f with pc := f.pc + 3, stack := .long (if 0 < a then a else if a = 0 then a else -a) :: rest }) target → Steps p.tables e below (T.setTop f) target := by
  obtain ⟨v, vm', X', ⟨first, t, hpost⟩, hstep⟩ := X.staticByContractHK hexec hown hlink hstat hinit hcode (by decide) (Lib.MathLoose.abs_long.meetsLoose l) rfl rfl rfl rfl
    (fun args' first o s₂ h => by
      cases o with
      | returned r => exact ⟨r, rfl⟩
      | threw y =>
        exfalso
        simp only [Lib.MathLoose.abs_long.spec, Cond.after, Cond.holds, Cond.value] at h
        generalize Term.eval args' first (some (Outcome.threw y)) [] s₂ (Term.arg 0) = e0 at h
        rcases e0 with _ | v0
        all_goals first | (cases v0 <;> simp at h) | simp at h
        all_goals (revert h; repeat' split) <;> simp_all)
    hg hsize (argsL := [.long a]) (rest := rest)
    (fun sig hs => by
      have h : parseMethodDescriptor "(J)J" = some { parameters := [.long], returnType := some .long } := by decide +kernel
      rw [show Lib.MathLoose.abs_long.x.desc = "(J)J" from rfl, h] at hs
      rw [← Option.some.inj hs]; rfl)
    hstack hdg
    (fun vm' hW => by
      simp only [Lib.MathLoose.abs_long.spec, Cond.before_and, Bool.and_eq_true]
      refine ⟨?_, rfl, rfl⟩
      have q := hcode
      rw [← Cond.code_setVm hW.alike] at q
      simp only [Cond.before, Cond.holds, Cond.value, State.methodNamed?, State.vm_setVm] at q ⊢
      exact q)
    (by show 0 + 1 ≤ R.frames; omega) (by show 2 * f.monitorRoom + (rest.map fun v => v.category).sum + (2 + 11) + 0 ≤ R.locals; omega) (by show cells + 0 ≤ R.cells; omega) (by show slots + 0 ≤ R.slots; omega)
  refine ⟨vm', X', fun target h => hstep target ?_⟩
  have key : v = some (.long (if 0 < a then a else if a = 0 then a else -a)) := by
    revert hpost
    by_cases h1 : 0 < a
    · rcases v with _ | w
      · simp [Lib.MathLoose.abs_long.spec, Cond.after, Cond.holds, Cond.value, Term.eval, Unary.apply, h1] <;> (try (intro hq; split at hq <;> simp_all))
      · cases w <;> simp [Lib.MathLoose.abs_long.spec, Cond.after, Cond.holds, Cond.value, Term.eval, Unary.apply, h1] <;> (try (intro hq; split at hq <;> simp_all))
    · by_cases h2 : a = 0
      · rcases v with _ | w
        · simp [Lib.MathLoose.abs_long.spec, Cond.after, Cond.holds, Cond.value, Term.eval, Unary.apply, h1, h2] <;> (try (intro hq; split at hq <;> simp_all))
        · cases w <;> simp [Lib.MathLoose.abs_long.spec, Cond.after, Cond.holds, Cond.value, Term.eval, Unary.apply, h1, h2] <;> (try (intro hq; split at hq <;> simp_all))
      · rcases v with _ | w
        · simp [Lib.MathLoose.abs_long.spec, Cond.after, Cond.holds, Cond.value, Term.eval, Unary.apply, h1, h2] <;> (try (intro hq; split at hq <;> simp_all))
        · cases w <;> simp [Lib.MathLoose.abs_long.spec, Cond.after, Cond.holds, Cond.value, Term.eval, Unary.apply, h1, h2] <;> (try (intro hq; split at hq <;> simp_all))
  subst key
  exact h
theorem ak_labs {index : Nat} (hdl : 0 < d) (hl : Cond.methodLink own index Lib.MathLoose.abs_long.x ∈ lw_gd) (hst : Cond.static Lib.MathLoose.abs_long.x ∈ lw_gd) (hi : Cond.initialized "java/lang/Math" ∈ lw_gd) (hc : Cond.code Lib.MathLoose.abs_long.x Lib.MathLoose.abs_long.code 2 (some .long) ∈ lw_gd) (hd : decode cc pc = .ok (.invokestatic index, 3)) : ax_ok g cc nL ret own nm d mc ms pc ao_labs := by
  intro p e s m args below meth c V Ret L st h u1 u2 K ho hK H locs ls hP hS hlr
  dsimp only [ao_labs] at ho
  split at ho
  · rename_i x r
    obtain ⟨⟨hr, rfl, rfl⟩, ho⟩ := ax_bifm ho
    have ht := V.2.2.2.2.2.2.2.1
    intro T hT X
    obtain ⟨vm', X', st⟩ := ax_labsH X V.1 V.2.2.2.2.2.1 (ht _ hl) (ht _ hst) (ht _ hi) (ht _ hc) (f := F0 m pc ls (.long x :: r.map (ax_v g))) rfl (hlr.1.trans V.2.2.2.2.1.symm) (a := x) (rest := r.map (ax_v g)) rfl (by rw [V.2.1]; exact hd) hdl (by
      show 2 * 0 + _ + 13 ≤ 41 * d + 32
      rw [ax_sum]; omega) (Nat.zero_le _) (Nat.zero_le _)
    obtain ⟨t, a1, b1⟩ := hK _ ho H locs ls hP hS hlr (T.setVm vm') hT X'
    exact ⟨t, st t a1, b1⟩
  · exact ho.elim
end
section
variable {g : ax_G} {cc : ByteArray} {nL : Nat} {ret : Option FieldType} {own nm : String} {d mc ms pc : Nat}
/-! where cells are made: the counts as propositions -/
theorem ak_imp {o o' : ax_O} (h : ax_ok g cc nL ret own nm d mc ms pc o) (hi : ∀ Ret L st hp u1 u2 K, o' Ret (pc, L, st, hp, u1, u2) K → o Ret (pc, L, st, hp, u1, u2) K) : ax_ok g cc nL ret own nm d mc ms pc o' := fun p e s m args below meth c V Ret L st hp u1 u2 K ho hK => h p e s m args below meth c V Ret L st hp u1 u2 K (hi Ret L st hp u1 u2 K ho) hK
def ao_inva (g : ax_G) (d' ci rk : Nat) (y : MethodName) (cc : ByteArray) (nL : Nat) (ret : Option FieldType) (n mc mx ms my : Nat) : ax_O := fun _ σ K => match σ with
  | (pc, L, st, h, u1, u2) => match ax_sp n [] st with
    | some (as, rest) => ((rest.map Value.category).sum ≤ 8 ∧ u1 + mc ≤ mx ∧ u2 + ms ≤ my) ∧ ax_rc ci as h (ax_M g d' mc ms y cc nL ret as h (fun v h' => ax_rk rk v (fun vs => K (pc + 3, L, vs ++ rest, h', u1 + mc, u2 + ms))))
    | none => False
theorem ax_ble {a b : Nat} (h : a ≤ b) : Nat.ble a b = true := Nat.ble_eq.mpr h
theorem ak_inva {d' ci rk : Nat} {y : MethodName} {cc' : ByteArray} {nL' : Nat} {ret' : Option FieldType} {n mc' mx ms' my : Nat} (h : ax_ok g cc nL ret own nm d mc ms pc (ao_inv g d' ci rk y cc' nL' ret' n mc' mx ms' my)) : ax_ok g cc nL ret own nm d mc ms pc (ao_inva g d' ci rk y cc' nL' ret' n mc' mx ms' my) := by
  refine ak_imp h ?_
  intro Ret L st hp u1 u2 K ho
  dsimp only [ao_inva] at ho
  dsimp only [ao_inv]
  split at ho
  · rename_i as rest heq
    try rw [heq]
    try dsimp only
    rw [ax_ble ho.1.1, ax_ble ho.1.2.1, ax_ble ho.1.2.2]
    exact ho.2
  · exact ho.elim
def ao_vreta (mc ms : Nat) : ax_O := fun Ret σ _ => match σ with
  | (pc, L, st, h, u1, u2) => match st with
    | [] => (u1 ≤ mc ∧ u2 ≤ ms) ∧ Ret none h
    | _ => False
def ao_zreta (mc ms : Nat) : ax_O := fun Ret σ _ => match σ with
  | (pc, L, st, h, u1, u2) => match st with
    | [.int x] => (u1 ≤ mc ∧ u2 ≤ ms) ∧ (x = 0 ∨ x = 1) ∧ Ret (some (.int x)) h
    | _ => False
theorem ax_rb_of {a b u1 u2 : Nat} {X : Prop} (h : (u1 ≤ a ∧ u2 ≤ b) ∧ X) : ax_rb a b u1 u2 X := by
  unfold ax_rb
  cases Nat.beq u1 0 && Nat.beq u2 0
  · exact h
  · exact h.2
theorem ak_vreta (h : ax_ok g cc nL ret own nm d mc ms pc (ao_vret mc ms)) : ax_ok g cc nL ret own nm d mc ms pc (ao_vreta mc ms) := by
  refine ak_imp h ?_
  intro Ret L st hp u1 u2 K ho
  dsimp only [ao_vreta] at ho
  dsimp only [ao_vret]
  split at ho
  · exact ax_rb_of ho
  · exact ho.elim
theorem ak_zreta (h : ax_ok g cc nL ret own nm d mc ms pc (ao_zret mc ms)) : ax_ok g cc nL ret own nm d mc ms pc (ao_zreta mc ms) := by
  refine ak_imp h ?_
  intro Ret L st hp u1 u2 K ho
  dsimp only [ao_zreta] at ho
  dsimp only [ao_zret]
  split at ho
  · exact ax_rb_of ho
  · exact ho.elim
end
