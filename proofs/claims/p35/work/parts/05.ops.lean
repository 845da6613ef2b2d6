section
/-! a state: place in the code, locals, stack, heap, new cells and slots so far; an operation: what must hold at a state so that K holds at what comes -/
abbrev ax_S : Type := Nat × List (Option Value) × List Value × ax_H × Nat × Nat
abbrev ax_O : Type := (Option Value → ax_H → Prop) → ax_S → (ax_S → Prop) → Prop
def ax_rm (d mc ms : Nat) : Room := { frames := d, cells := mc, slots := ms, locals := 41 * d + 32 }
def ax_sa : List (String × String × List Int32) := [("GluedHour", "LINES_MOST", [0, 14, 6, 8, 6]), ("GluedHour", "LINE_WIDTH", [0, 1, 3, 2, 3]), ("GluedHour$Reader", "VERB_SORT", [0, 0, 0, 0, 0, 0, 1, 2, 3, 4, 4]), ("GluedHour$Reader", "NUMBERS", [1, 2, 2, 1, 3, 3, 1, 3, 2, 3, 3]), ("GluedHour$Reader", "LOWEST", [2, 0, 0, 0, 0, 0, 0, 0, 0, 0, 0, 0, 0, 0, 0, 0, 0, 0, 0, 0, 0, 0, 0, 0, 0, 1, 0, 1, 0, 0, 1, 0, 0]), ("GluedHour$Reader", "HIGHEST", [12, 0, 0, 5, 99, 0, 5, 99, 0, 999, 0, 0, 5, 11, 5, 5, 11, 9, 11, 0, 0, 5, 11, 11, 11, 9, 0, 3, 5, 999, 3, 5, 999])]
/-- the String constants of the reader: entry of its pool, text -/
def ax_ss : List (Nat × String) := [(125, "twice"), (131, "once"), (133, "undone"), (173, "hours"), (174, "gain"), (176, "loss"), (178, "person"), (180, "does"), (182, "lot"), (184, "stuck"), (186, "errand"), (188, "train"), (190, "has"), (192, "owes")]
def ax_sl : List Nat := [5, 4, 6, 5, 4, 4, 6, 4, 3, 5, 6, 5, 3, 4]
def ax_sb : List (List Int32) := [[116, 119, 105, 99, 101], [111, 110, 99, 101], [117, 110, 100, 111, 110, 101], [104, 111, 117, 114, 115], [103, 97, 105, 110], [108, 111, 115, 115], [112, 101, 114, 115, 111, 110], [100, 111, 101, 115], [108, 111, 116], [115, 116, 117, 99, 107], [101, 114, 114, 97, 110, 100], [116, 114, 97, 105, 110], [104, 97, 115], [111, 119, 101, 115]]
def ax_nf : List (String × Nat × String × String × String × String) := [("GluedHour$Lines", 15, "GluedHour", "LINES_MOST", "[I", "GluedHour"), ("GluedHour$Lines", 22, "GluedHour", "LINE_WIDTH", "[I", "GluedHour")]
def ax_nm : List (String × Nat × MethodName × String) := [("GluedHour", 35, ⟨"GluedHour$Course", "<init>", "()V"⟩, "GluedHour"), ("GluedHour", 42, ⟨"GluedHour$Odds", "<init>", "()V"⟩, "GluedHour"), ("GluedHour", 52, ⟨"GluedHour$Planner", "<init>", "()V"⟩, "GluedHour"), ("GluedHour", 66, ⟨"GluedHour$Fraction", "<init>", "()V"⟩, "GluedHour"), ("GluedHour$Planner", 41, ⟨"GluedHour$Odds", "<init>", "()V"⟩, "GluedHour"), ("GluedHour$Search", 31, ⟨"GluedHour$Odds", "<init>", "()V"⟩, "GluedHour")]
def ax_ao : List String := ["GluedHour$Lines", "GluedHour$Odds", "GluedHour$Republic", "GluedHour$Told"]
/-- the static arrays and String constants, as they stand below the new cells -/
def ax_Z (g : ax_G) (s : State) (H : Heap) : Prop := (∀ (j : Nat) (q : String × String × List Int32), ax_sa[j]? = some q → va_Z q.1 q.2.1 "[I" (.ref (ax_ad g (1000000 + j))) (ax_A g) s H ∧ va_T .int (ax_ad g (1000000 + j)) q.2.2.length (fun k => .int (q.2.2.getD k 0)) (ax_A g) s H) ∧ vk_S 14 ax_sl ax_sb (fun i => ax_ad g (1000100 + i)) (fun i => ax_ad g (1000200 + i)) (ax_A g) s H ∧ (∀ (i : Nat) (q : Nat × String), ax_ss[i]? = some q → vk_R "GluedHour$Reader" q.1 q.2 (ax_ad g (1000100 + i)) s) ∧ va_Z "java/lang/String" "COMPACT_STRINGS" "Z" (.int 1) (ax_A g) s H ∧ va_X (ax_ad g 1000300) (g.2.2.1 400) (fun j => Int32.ofNat (g.2.2.1 (1000 + j))) s H ∧ (¬ ax_A g (ax_ad g 1000300)) ∧ (∀ q ∈ ax_nf, va_Nw (.fieldLinkNest q.1 q.2.1 q.2.2.1 q.2.2.2.1 q.2.2.2.2.1 q.2.2.2.2.2) s) ∧ (∀ q ∈ ax_nm, va_Nw (.methodLinkNest q.1 q.2.1 q.2.2.1 q.2.2.2) s) ∧ (∀ C ∈ ax_ao, va_AO C s) ∧ (va_Z "jdk/internal/util/Preconditions" "SIOOBE_FORMATTER" "Ljava/util/function/BiFunction;" .null (ax_A g) s H ∨ va_Z "jdk/internal/util/Preconditions" "SIOOBE_FORMATTER" "Ljava/util/function/BiFunction;" (.ref (ax_ad g 1000301)) (ax_A g) s H)
theorem ax_Z_moved {g : ax_G} {s U : State} {H H1 : Heap} (h : ax_Z g s H) (hvm : s.vm.Alike U.vm) (hR : U.vm = s.vm ∨ s.WarmedH U.vm) (hq : ∀ a : Nat, a < H.size → ¬ ax_A g a → H1[a]? = H[a]?) : ax_Z g U H1 := ⟨fun j q hj => ⟨((h.1 j q hj).1.kept hq).moved hvm, ((h.1 j q hj).2.kept hq).moved hvm⟩, (h.2.1.kept hq).moved hvm, fun i q hi => hR.elim (fun z => vk_R.same z (h.2.2.1 i q hi)) (fun z => vk_R.warm z (h.2.2.1 i q hi)), (h.2.2.2.1.kept hq).moved hvm, (h.2.2.2.2.1.kept (hq _ (by obtain ⟨_, h1, _⟩ := h.2.2.2.2.1; exact (Array.getElem?_eq_some_iff.mp h1).1) h.2.2.2.2.2.1)).moved hvm, h.2.2.2.2.2.1, fun q hq => hR.elim (fun z => va_Nw.same rfl z.symm (h.2.2.2.2.2.2.1 q hq)) (fun z => va_Nw.warmF z (h.2.2.2.2.2.2.1 q hq)), fun q hq => hR.elim (fun z => va_Nw.same rfl z.symm (h.2.2.2.2.2.2.2.1 q hq)) (fun z => va_Nw.warmM z (h.2.2.2.2.2.2.2.1 q hq)), fun C hC => (h.2.2.2.2.2.2.2.2.1 C hC).moved hvm, h.2.2.2.2.2.2.2.2.2.imp (fun z => (z.kept hq).moved hvm) (fun z => (z.kept hq).moved hvm)⟩
def ax_V (g : ax_G) (cc : ByteArray) (nL : Nat) (ret : Option FieldType) (own nm : String) (p : Program) (s : State) (m : MethodId) (args : Array Value) (meth : Method) (c : Code) : Prop := p.tables.exec = Jvm.exec ∧ c.code = cc ∧ meth.sig.returnType = ret ∧ meth.locks = false ∧ c.maxLocals = nL ∧ s.vm.findClass own = some m.cls ∧ meth.name = nm ∧ (∀ w ∈ lw_gd, w.before args s = true) ∧ ax_K g s ∧ g.2.1 ≤ s.heap.size ∧ ax_Z g s s.heap
def ax_Q (g : ax_G) (Ret : Option Value → ax_H → Prop) : Array Value → State → Outcome → State → Prop := fun _ st oc t => (∃ (v : Option Value) (h' : ax_H), oc = .returned (v.map (ax_v g)) ∧ Ret v h' ∧ ax_P g h' t.heap) ∧ va_F (ax_A g) st t
def ax_W (g : ax_G) (nL d mc ms : Nat) (p : Program) (e : Env) (s : State) (m : MethodId) (args : Array Value) (below : List Frame) (meth : Method) (c : Code) (Ret : Option Value → ax_H → Prop) : ax_S → Prop := fun σ => ∀ (H : Heap) (locs : List Loc) (ls : Array Slot), ax_P g σ.2.2.2.1 H → va_S (ax_A g) s.heap H locs → ax_lr g ls nL σ.2.1 → W p g.1 e (ax_rm d mc ms) s m args below meth c H locs σ.2.2.2.2.1 σ.2.2.2.2.2 (MQ below (ax_Q g Ret) args s mc ms (ax_A g)) (F0 m σ.1 ls (σ.2.2.1.map (ax_v g)))
/-- an operation is sound at a place of a code -/
def ax_ok (g : ax_G) (cc : ByteArray) (nL : Nat) (ret : Option FieldType) (own nm : String) (d mc ms pc : Nat) (o : ax_O) : Prop := ∀ (p : Program) (e : Env) (s : State) (m : MethodId) (args : Array Value) (below : List Frame) (meth : Method) (c : Code), ax_V g cc nL ret own nm p s m args meth c → ∀ (Ret : Option Value → ax_H → Prop) (L : List (Option Value)) (st : List Value) (h : ax_H) (u1 u2 : Nat) (K : ax_S → Prop), o Ret (pc, L, st, h, u1, u2) K → (∀ σ, K σ → ax_W g nL d mc ms p e s m args below meth c Ret σ) → ax_W g nL d mc ms p e s m args below meth c Ret (pc, L, st, h, u1, u2)
def ao_no : ax_O := fun _ _ _ => False
variable {g : ax_G} {cc : ByteArray} {nL : Nat} {ret : Option FieldType} {own nm : String} {d mc ms pc : Nat}
theorem ak_no : ax_ok g cc nL ret own nm d mc ms pc ao_no := fun _ _ _ _ _ _ _ _ _ _ _ _ _ _ _ _ ho => ho.elim

def ao_iadd : ax_O := fun _ σ K => match σ with
  | (pc, L, st, h, u1, u2) => match st with
    | .int y :: .int x :: r => K (pc + 1, L, .int (x + y) :: r, h, u1, u2)
    | _ => False
theorem ak_iadd (hd : decode cc pc = .ok (.iadd, 1)) : ax_ok g cc nL ret own nm d mc ms pc (ao_iadd) := by
  intro p e s m args below meth c V Ret L st h u1 u2 K ho hK H locs ls hP hS hl
  dsimp only [ao_iadd] at ho
  split at ho
  · exact lv_iadd V.1 V.2.1 hd (hK _ ho H locs ls hP hS hl)
  · exact ho.elim
def ao_isub : ax_O := fun _ σ K => match σ with
  | (pc, L, st, h, u1, u2) => match st with
    | .int y :: .int x :: r => K (pc + 1, L, .int (x - y) :: r, h, u1, u2)
    | _ => False
theorem ak_isub (hd : decode cc pc = .ok (.isub, 1)) : ax_ok g cc nL ret own nm d mc ms pc (ao_isub) := by
  intro p e s m args below meth c V Ret L st h u1 u2 K ho hK H locs ls hP hS hl
  dsimp only [ao_isub] at ho
  split at ho
  · exact lv_isub V.1 V.2.1 hd (hK _ ho H locs ls hP hS hl)
  · exact ho.elim
def ao_imul : ax_O := fun _ σ K => match σ with
  | (pc, L, st, h, u1, u2) => match st with
    | .int y :: .int x :: r => K (pc + 1, L, .int (x * y) :: r, h, u1, u2)
    | _ => False
theorem ak_imul (hd : decode cc pc = .ok (.imul, 1)) : ax_ok g cc nL ret own nm d mc ms pc (ao_imul) := by
  intro p e s m args below meth c V Ret L st h u1 u2 K ho hK H locs ls hP hS hl
  dsimp only [ao_imul] at ho
  split at ho
  · exact lv_imul V.1 V.2.1 hd (hK _ ho H locs ls hP hS hl)
  · exact ho.elim
def ao_iand : ax_O := fun _ σ K => match σ with
  | (pc, L, st, h, u1, u2) => match st with
    | .int y :: .int x :: r => K (pc + 1, L, .int (x &&& y) :: r, h, u1, u2)
    | _ => False
theorem ak_iand (hd : decode cc pc = .ok (.iand, 1)) : ax_ok g cc nL ret own nm d mc ms pc (ao_iand) := by
  intro p e s m args below meth c V Ret L st h u1 u2 K ho hK H locs ls hP hS hl
  dsimp only [ao_iand] at ho
  split at ho
  · exact lv_iand V.1 V.2.1 hd (hK _ ho H locs ls hP hS hl)
  · exact ho.elim
def ao_ior : ax_O := fun _ σ K => match σ with
  | (pc, L, st, h, u1, u2) => match st with
    | .int y :: .int x :: r => K (pc + 1, L, .int (x ||| y) :: r, h, u1, u2)
    | _ => False
theorem ak_ior (hd : decode cc pc = .ok (.ior, 1)) : ax_ok g cc nL ret own nm d mc ms pc (ao_ior) := by
  intro p e s m args below meth c V Ret L st h u1 u2 K ho hK H locs ls hP hS hl
  dsimp only [ao_ior] at ho
  split at ho
  · exact lv_ior V.1 V.2.1 hd (hK _ ho H locs ls hP hS hl)
  · exact ho.elim
def ao_ixor : ax_O := fun _ σ K => match σ with
  | (pc, L, st, h, u1, u2) => match st with
    | .int y :: .int x :: r => K (pc + 1, L, .int (x ^^^ y) :: r, h, u1, u2)
    | _ => False
theorem ak_ixor (hd : decode cc pc = .ok (.ixor, 1)) : ax_ok g cc nL ret own nm d mc ms pc (ao_ixor) := by
  intro p e s m args below meth c V Ret L st h u1 u2 K ho hK H locs ls hP hS hl
  dsimp only [ao_ixor] at ho
  split at ho
  · exact lv_ixor V.1 V.2.1 hd (hK _ ho H locs ls hP hS hl)
  · exact ho.elim
def ao_ishl : ax_O := fun _ σ K => match σ with
  | (pc, L, st, h, u1, u2) => match st with
    | .int y :: .int x :: r => K (pc + 1, L, .int (x <<< (y &&& 31)) :: r, h, u1, u2)
    | _ => False
theorem ak_ishl (hd : decode cc pc = .ok (.ishl, 1)) : ax_ok g cc nL ret own nm d mc ms pc (ao_ishl) := by
  intro p e s m args below meth c V Ret L st h u1 u2 K ho hK H locs ls hP hS hl
  dsimp only [ao_ishl] at ho
  split at ho
  · exact lv_ishl V.1 V.2.1 hd (hK _ ho H locs ls hP hS hl)
  · exact ho.elim
def ao_ishr : ax_O := fun _ σ K => match σ with
  | (pc, L, st, h, u1, u2) => match st with
    | .int y :: .int x :: r => K (pc + 1, L, .int (x >>> (y &&& 31)) :: r, h, u1, u2)
    | _ => False
theorem ak_ishr (hd : decode cc pc = .ok (.ishr, 1)) : ax_ok g cc nL ret own nm d mc ms pc (ao_ishr) := by
  intro p e s m args below meth c V Ret L st h u1 u2 K ho hK H locs ls hP hS hl
  dsimp only [ao_ishr] at ho
  split at ho
  · exact lv_ishr V.1 V.2.1 hd (hK _ ho H locs ls hP hS hl)
  · exact ho.elim
def ao_iushr : ax_O := fun _ σ K => match σ with
  | (pc, L, st, h, u1, u2) => match st with
    | .int y :: .int x :: r => K (pc + 1, L, .int ((x.toUInt32 >>> (y.toUInt32 &&& Int32.toUInt32 31)).toInt32) :: r, h, u1, u2)
    | _ => False
theorem ak_iushr (hd : decode cc pc = .ok (.iushr, 1)) : ax_ok g cc nL ret own nm d mc ms pc (ao_iushr) := by
  intro p e s m args below meth c V Ret L st h u1 u2 K ho hK H locs ls hP hS hl
  dsimp only [ao_iushr] at ho
  split at ho
  · exact lv_iushr V.1 V.2.1 hd rfl (hK _ ho H locs ls hP hS hl)
  · exact ho.elim
def ao_idiv : ax_O := fun _ σ K => match σ with
  | (pc, L, st, h, u1, u2) => match st with
    | .int y :: .int x :: r => (¬ y = 0) ∧ K (pc + 1, L, .int (x / y) :: r, h, u1, u2)
    | _ => False
theorem ak_idiv (hd : decode cc pc = .ok (.idiv, 1)) : ax_ok g cc nL ret own nm d mc ms pc (ao_idiv) := by
  intro p e s m args below meth c V Ret L st h u1 u2 K ho hK H locs ls hP hS hl
  dsimp only [ao_idiv] at ho
  split at ho
  · exact lv_idiv V.1 V.2.1 hd ho.1 (hK _ ho.2 H locs ls hP hS hl)
  · exact ho.elim
def ao_irem : ax_O := fun _ σ K => match σ with
  | (pc, L, st, h, u1, u2) => match st with
    | .int y :: .int x :: r => (¬ y = 0) ∧ K (pc + 1, L, .int (x - x / y * y) :: r, h, u1, u2)
    | _ => False
theorem ak_irem (hd : decode cc pc = .ok (.irem, 1)) : ax_ok g cc nL ret own nm d mc ms pc (ao_irem) := by
  intro p e s m args below meth c V Ret L st h u1 u2 K ho hK H locs ls hP hS hl
  dsimp only [ao_irem] at ho
  split at ho
  · exact lv_irem V.1 V.2.1 hd ho.1 (hK _ ho.2 H locs ls hP hS hl)
  · exact ho.elim
def ao_ladd : ax_O := fun _ σ K => match σ with
  | (pc, L, st, h, u1, u2) => match st with
    | .long y :: .long x :: r => K (pc + 1, L, .long (x + y) :: r, h, u1, u2)
    | _ => False
theorem ak_ladd (hd : decode cc pc = .ok (.ladd, 1)) : ax_ok g cc nL ret own nm d mc ms pc (ao_ladd) := by
  intro p e s m args below meth c V Ret L st h u1 u2 K ho hK H locs ls hP hS hl
  dsimp only [ao_ladd] at ho
  split at ho
  · exact lv_ladd V.1 V.2.1 hd (hK _ ho H locs ls hP hS hl)
  · exact ho.elim
def ao_lsub : ax_O := fun _ σ K => match σ with
  | (pc, L, st, h, u1, u2) => match st with
    | .long y :: .long x :: r => K (pc + 1, L, .long (x - y) :: r, h, u1, u2)
    | _ => False
theorem ak_lsub (hd : decode cc pc = .ok (.lsub, 1)) : ax_ok g cc nL ret own nm d mc ms pc (ao_lsub) := by
  intro p e s m args below meth c V Ret L st h u1 u2 K ho hK H locs ls hP hS hl
  dsimp only [ao_lsub] at ho
  split at ho
  · exact lv_lsub V.1 V.2.1 hd (hK _ ho H locs ls hP hS hl)
  · exact ho.elim
def ao_lmul : ax_O := fun _ σ K => match σ with
  | (pc, L, st, h, u1, u2) => match st with
    | .long y :: .long x :: r => K (pc + 1, L, .long (x * y) :: r, h, u1, u2)
    | _ => False
theorem ak_lmul (hd : decode cc pc = .ok (.lmul, 1)) : ax_ok g cc nL ret own nm d mc ms pc (ao_lmul) := by
  intro p e s m args below meth c V Ret L st h u1 u2 K ho hK H locs ls hP hS hl
  dsimp only [ao_lmul] at ho
  split at ho
  · exact lv_lmul V.1 V.2.1 hd (hK _ ho H locs ls hP hS hl)
  · exact ho.elim
def ao_lor : ax_O := fun _ σ K => match σ with
  | (pc, L, st, h, u1, u2) => match st with
    | .long y :: .long x :: r => K (pc + 1, L, .long (x ||| y) :: r, h, u1, u2)
    | _ => False
theorem ak_lor (hd : decode cc pc = .ok (.lor, 1)) : ax_ok g cc nL ret own nm d mc ms pc (ao_lor) := by
  intro p e s m args below meth c V Ret L st h u1 u2 K ho hK H locs ls hP hS hl
  dsimp only [ao_lor] at ho
  split at ho
  · exact lv_lor V.1 V.2.1 hd (hK _ ho H locs ls hP hS hl)
  · exact ho.elim
def ao_ldiv : ax_O := fun _ σ K => match σ with
  | (pc, L, st, h, u1, u2) => match st with
    | .long y :: .long x :: r => (¬ y = 0) ∧ K (pc + 1, L, .long (x / y) :: r, h, u1, u2)
    | _ => False
theorem ak_ldiv (hd : decode cc pc = .ok (.ldiv, 1)) : ax_ok g cc nL ret own nm d mc ms pc (ao_ldiv) := by
  intro p e s m args below meth c V Ret L st h u1 u2 K ho hK H locs ls hP hS hl
  dsimp only [ao_ldiv] at ho
  split at ho
  · exact lv_ldiv V.1 V.2.1 hd ho.1 (hK _ ho.2 H locs ls hP hS hl)
  · exact ho.elim
def ao_lrem : ax_O := fun _ σ K => match σ with
  | (pc, L, st, h, u1, u2) => match st with
    | .long y :: .long x :: r => (¬ y = 0) ∧ K (pc + 1, L, .long (x - x / y * y) :: r, h, u1, u2)
    | _ => False
theorem ak_lrem (hd : decode cc pc = .ok (.lrem, 1)) : ax_ok g cc nL ret own nm d mc ms pc (ao_lrem) := by
  intro p e s m args below meth c V Ret L st h u1 u2 K ho hK H locs ls hP hS hl
  dsimp only [ao_lrem] at ho
  split at ho
  · exact lv_lrem V.1 V.2.1 hd ho.1 (hK _ ho.2 H locs ls hP hS hl)
  · exact ho.elim
def ao_lcmp : ax_O := fun _ σ K => match σ with
  | (pc, L, st, h, u1, u2) => match st with
    | .long y :: .long x :: r => K (pc + 1, L, .int (lg_cmp x y) :: r, h, u1, u2)
    | _ => False
theorem ak_lcmp (hd : decode cc pc = .ok (.lcmp, 1)) : ax_ok g cc nL ret own nm d mc ms pc (ao_lcmp) := by
  intro p e s m args below meth c V Ret L st h u1 u2 K ho hK H locs ls hP hS hl
  dsimp only [ao_lcmp] at ho
  split at ho
  · exact W.lcmp V.1 V.2.1 hd (hK _ ho H locs ls hP hS hl)
  · exact ho.elim
def ao_lshl : ax_O := fun _ σ K => match σ with
  | (pc, L, st, h, u1, u2) => match st with
    | .int y :: .long x :: r => K (pc + 1, L, .long (x <<< (y.toInt64 &&& 63)) :: r, h, u1, u2)
    | _ => False
theorem ak_lshl (hd : decode cc pc = .ok (.lshl, 1)) : ax_ok g cc nL ret own nm d mc ms pc (ao_lshl) := by
  intro p e s m args below meth c V Ret L st h u1 u2 K ho hK H locs ls hP hS hl
  dsimp only [ao_lshl] at ho
  split at ho
  · exact lv_lshl V.1 V.2.1 hd rfl (hK _ ho H locs ls hP hS hl)
  · exact ho.elim
def ao_lshr : ax_O := fun _ σ K => match σ with
  | (pc, L, st, h, u1, u2) => match st with
    | .int y :: .long x :: r => K (pc + 1, L, .long (x >>> (y.toInt64 &&& 63)) :: r, h, u1, u2)
    | _ => False
theorem ak_lshr (hd : decode cc pc = .ok (.lshr, 1)) : ax_ok g cc nL ret own nm d mc ms pc (ao_lshr) := by
  intro p e s m args below meth c V Ret L st h u1 u2 K ho hK H locs ls hP hS hl
  dsimp only [ao_lshr] at ho
  split at ho
  · exact lv_lshr V.1 V.2.1 hd rfl (hK _ ho H locs ls hP hS hl)
  · exact ho.elim
def ao_ineg : ax_O := fun _ σ K => match σ with
  | (pc, L, st, h, u1, u2) => match st with
    | .int x :: r => K (pc + 1, L, .int (-x) :: r, h, u1, u2)
    | _ => False
theorem ak_ineg (hd : decode cc pc = .ok (.ineg, 1)) : ax_ok g cc nL ret own nm d mc ms pc (ao_ineg) := by
  intro p e s m args below meth c V Ret L st h u1 u2 K ho hK H locs ls hP hS hl
  dsimp only [ao_ineg] at ho
  split at ho
  · exact lv_ineg V.1 V.2.1 hd (hK _ ho H locs ls hP hS hl)
  · exact ho.elim
def ao_lneg : ax_O := fun _ σ K => match σ with
  | (pc, L, st, h, u1, u2) => match st with
    | .long x :: r => K (pc + 1, L, .long (-x) :: r, h, u1, u2)
    | _ => False
theorem ak_lneg (hd : decode cc pc = .ok (.lneg, 1)) : ax_ok g cc nL ret own nm d mc ms pc (ao_lneg) := by
  intro p e s m args below meth c V Ret L st h u1 u2 K ho hK H locs ls hP hS hl
  dsimp only [ao_lneg] at ho
  split at ho
  · exact lv_lneg V.1 V.2.1 hd (hK _ ho H locs ls hP hS hl)
  · exact ho.elim
def ao_i2l : ax_O := fun _ σ K => match σ with
  | (pc, L, st, h, u1, u2) => match st with
    | .int x :: r => K (pc + 1, L, .long x.toInt64 :: r, h, u1, u2)
    | _ => False
theorem ak_i2l (hd : decode cc pc = .ok (.i2l, 1)) : ax_ok g cc nL ret own nm d mc ms pc (ao_i2l) := by
  intro p e s m args below meth c V Ret L st h u1 u2 K ho hK H locs ls hP hS hl
  dsimp only [ao_i2l] at ho
  split at ho
  · exact lv_i2l V.1 V.2.1 hd rfl (hK _ ho H locs ls hP hS hl)
  · exact ho.elim
def ao_l2i : ax_O := fun _ σ K => match σ with
  | (pc, L, st, h, u1, u2) => match st with
    | .long x :: r => K (pc + 1, L, .int x.toInt32 :: r, h, u1, u2)
    | _ => False
theorem ak_l2i (hd : decode cc pc = .ok (.l2i, 1)) : ax_ok g cc nL ret own nm d mc ms pc (ao_l2i) := by
  intro p e s m args below meth c V Ret L st h u1 u2 K ho hK H locs ls hP hS hl
  dsimp only [ao_l2i] at ho
  split at ho
  · exact lv_l2i V.1 V.2.1 hd rfl (hK _ ho H locs ls hP hS hl)
  · exact ho.elim
def ao_i2b : ax_O := fun _ σ K => match σ with
  | (pc, L, st, h, u1, u2) => match st with
    | .int x :: r => K (pc + 1, L, .int x.toInt8.toInt32 :: r, h, u1, u2)
    | _ => False
theorem ak_i2b (hd : decode cc pc = .ok (.i2b, 1)) : ax_ok g cc nL ret own nm d mc ms pc (ao_i2b) := by
  intro p e s m args below meth c V Ret L st h u1 u2 K ho hK H locs ls hP hS hl
  dsimp only [ao_i2b] at ho
  split at ho
  · exact lv_i2b V.1 V.2.1 hd rfl (hK _ ho H locs ls hP hS hl)
  · exact ho.elim
def ao_i2c : ax_O := fun _ σ K => match σ with
  | (pc, L, st, h, u1, u2) => match st with
    | .int x :: r => K (pc + 1, L, .int (x.toUInt32 % 65536).toInt32 :: r, h, u1, u2)
    | _ => False
theorem ak_i2c (hd : decode cc pc = .ok (.i2c, 1)) : ax_ok g cc nL ret own nm d mc ms pc (ao_i2c) := by
  intro p e s m args below meth c V Ret L st h u1 u2 K ho hK H locs ls hP hS hl
  dsimp only [ao_i2c] at ho
  split at ho
  · exact lv_i2c V.1 V.2.1 hd rfl (hK _ ho H locs ls hP hS hl)
  · exact ho.elim
def ao_dup : ax_O := fun _ σ K => match σ with
  | (pc, L, st, h, u1, u2) => match st with
    | v :: r => v.category = 1 ∧ K (pc + 1, L, v :: v :: r, h, u1, u2)
    | _ => False
theorem ak_dup (hd : decode cc pc = .ok (.dup, 1)) : ax_ok g cc nL ret own nm d mc ms pc (ao_dup) := by
  intro p e s m args below meth c V Ret L st h u1 u2 K ho hK H locs ls hP hS hl
  dsimp only [ao_dup] at ho
  split at ho
  · exact lv_dup V.1 V.2.1 hd ((ax_v_cat g _).trans ho.1) (hK _ ho.2 H locs ls hP hS hl)
  · exact ho.elim
def ao_pop : ax_O := fun _ σ K => match σ with
  | (pc, L, st, h, u1, u2) => match st with
    | v :: r => v.category = 1 ∧ K (pc + 1, L, r, h, u1, u2)
    | _ => False
theorem ak_pop (hd : decode cc pc = .ok (.pop, 1)) : ax_ok g cc nL ret own nm d mc ms pc (ao_pop) := by
  intro p e s m args below meth c V Ret L st h u1 u2 K ho hK H locs ls hP hS hl
  dsimp only [ao_pop] at ho
  split at ho
  · exact lv_pop V.1 V.2.1 hd ((ax_v_cat g _).trans ho.1) (hK _ ho.2 H locs ls hP hS hl)
  · exact ho.elim
def ao_pop2 : ax_O := fun _ σ K => match σ with
  | (pc, L, st, h, u1, u2) => match st with
    | v :: r => v.category = 2 ∧ K (pc + 1, L, r, h, u1, u2)
    | _ => False
theorem ak_pop2 (hd : decode cc pc = .ok (.pop2, 1)) : ax_ok g cc nL ret own nm d mc ms pc (ao_pop2) := by
  intro p e s m args below meth c V Ret L st h u1 u2 K ho hK H locs ls hP hS hl
  dsimp only [ao_pop2] at ho
  split at ho
  · exact lv_pop2_2 V.1 V.2.1 hd ((ax_v_cat g _).trans ho.1) (hK _ ho.2 H locs ls hP hS hl)
  · exact ho.elim
def ao_dup2 : ax_O := fun _ σ K => match σ with
  | (pc, L, st, h, u1, u2) => match st with
    | v :: w :: r => (v.category = 1 ∧ w.category = 1) ∧ K (pc + 1, L, v :: w :: v :: w :: r, h, u1, u2)
    | _ => False
theorem ak_dup2 (hd : decode cc pc = .ok (.dup2, 1)) : ax_ok g cc nL ret own nm d mc ms pc (ao_dup2) := by
  intro p e s m args below meth c V Ret L st h u1 u2 K ho hK H locs ls hP hS hl
  dsimp only [ao_dup2] at ho
  split at ho
  · exact lv_dup2_11 V.1 V.2.1 hd ((ax_v_cat g _).trans ho.1.1) ((ax_v_cat g _).trans ho.1.2) (hK _ ho.2 H locs ls hP hS hl)
  · exact ho.elim
def ao_ic (v : Int32) (len : Nat) : ax_O := fun _ σ K => match σ with
  | (pc, L, st, h, u1, u2) => K (pc + len, L, .int v :: st, h, u1, u2)
def ao_lc (v : Int64) (len : Nat) : ax_O := fun _ σ K => match σ with
  | (pc, L, st, h, u1, u2) => K (pc + len, L, .long v :: st, h, u1, u2)
def ao_null : ax_O := fun _ σ K => match σ with
  | (pc, L, st, h, u1, u2) => K (pc + 1, L, .null :: st, h, u1, u2)
theorem ak_iconst {n : Int} {v : Int32} (hv : Int32.ofInt n = v) (hd : decode cc pc = .ok (.iconst n, 1)) : ax_ok g cc nL ret own nm d mc ms pc (ao_ic v 1) := by
  intro p e s m args below meth c V Ret L st h u1 u2 K ho hK H locs ls hP hS hl
  dsimp only [ao_ic] at ho
  exact lv_iconst V.1 V.2.1 hd hv (hK _ ho H locs ls hP hS hl)
theorem ak_bipush {n : Int} {v : Int32} (hv : (Int8.ofInt n).toInt32 = v) (hd : decode cc pc = .ok (.bipush n, 2)) : ax_ok g cc nL ret own nm d mc ms pc (ao_ic v 2) := by
  intro p e s m args below meth c V Ret L st h u1 u2 K ho hK H locs ls hP hS hl
  dsimp only [ao_ic] at ho
  exact lv_bipush V.1 V.2.1 hd hv (hK _ ho H locs ls hP hS hl)
theorem ak_sipush {n : Int} {v : Int32} (hv : (Int16.ofInt n).toInt32 = v) (hd : decode cc pc = .ok (.sipush n, 3)) : ax_ok g cc nL ret own nm d mc ms pc (ao_ic v 3) := by
  intro p e s m args below meth c V Ret L st h u1 u2 K ho hK H locs ls hP hS hl
  dsimp only [ao_ic] at ho
  exact lv_sipush V.1 V.2.1 hd hv (hK _ ho H locs ls hP hS hl)
theorem ak_lconst {n : Fin 2} {v : Int64} (hv : Int64.ofNat (n : Nat) = v) (hd : decode cc pc = .ok (.lconst n, 1)) : ax_ok g cc nL ret own nm d mc ms pc (ao_lc v 1) := by
  intro p e s m args below meth c V Ret L st h u1 u2 K ho hK H locs ls hP hS hl
  dsimp only [ao_lc] at ho
  exact lv_lconst V.1 V.2.1 hd hv (hK _ ho H locs ls hP hS hl)
theorem ak_null (hd : decode cc pc = .ok (.aconst_null, 1)) : ax_ok g cc nL ret own nm d mc ms pc (ao_null) := by
  intro p e s m args below meth c V Ret L st h u1 u2 K ho hK H locs ls hP hS hl
  dsimp only [ao_null] at ho
  exact lv_null V.1 V.2.1 hd (hK _ ho H locs ls hP hS hl)
theorem ak_ldc {i : Nat} {v : Int32} (hw : Cond.constant own i v ∈ lw_gd) (hd : decode cc pc = .ok (.ldc i, 2)) : ax_ok g cc nL ret own nm d mc ms pc (ao_ic v 2) := by
  intro p e s m args below meth c V Ret L st h u1 u2 K ho hK H locs ls hP hS hl
  dsimp only [ao_ic] at ho
  exact lv_ldc V.1 V.2.1 V.2.2.2.2.2.1 (V.2.2.2.2.2.2.2.1 _ hw) hd (hK _ ho H locs ls hP hS hl)
theorem ak_ldcw {i : Nat} {v : Int32} (hw : Cond.constant own i v ∈ lw_gd) (hd : decode cc pc = .ok (.ldc_w i, 3)) : ax_ok g cc nL ret own nm d mc ms pc (ao_ic v 3) := by
  intro p e s m args below meth c V Ret L st h u1 u2 K ho hK H locs ls hP hS hl
  dsimp only [ao_ic] at ho
  exact lv_ldcw V.1 V.2.1 V.2.2.2.2.2.1 (V.2.2.2.2.2.2.2.1 _ hw) hd (hK _ ho H locs ls hP hS hl)
theorem ak_ldc2 {i : Nat} {v : Int64} (hw : Cond.constantLong own i v ∈ lw_gd) (hd : decode cc pc = .ok (.ldc2_w i, 3)) : ax_ok g cc nL ret own nm d mc ms pc (ao_lc v 3) := by
  intro p e s m args below meth c V Ret L st h u1 u2 K ho hK H locs ls hP hS hl
  dsimp only [ao_lc] at ho
  exact lv_ldc2 V.1 V.2.1 V.2.2.2.2.2.1 (V.2.2.2.2.2.2.2.1 _ hw) hd (hK _ ho H locs ls hP hS hl)
def ao_il (i len : Nat) : ax_O := fun _ σ K => match σ with
  | (pc, L, st, h, u1, u2) => match ax_g L i with
    | some (.int x) => K (pc + len, L, .int x :: st, h, u1, u2)
    | _ => False
theorem ak_iload_n {k : Fin 4} {i : Nat} (hi : (k : Nat) = i) (hd : decode cc pc = .ok (.iload_n k, 1)) : ax_ok g cc nL ret own nm d mc ms pc (ao_il i 1) := by
  intro p e s m args below meth c V Ret L st h u1 u2 K ho hK H locs ls hP hS hl
  dsimp only [ao_il] at ho
  split at ho
  · rename_i hg
    exact lv_iload_n V.1 V.2.1 hd hi (ax_lr_get hl hg) (hK _ ho H locs ls hP hS hl)
  · exact ho.elim
theorem ak_iload {i : Nat} (hd : decode cc pc = .ok (.iload i, 2)) : ax_ok g cc nL ret own nm d mc ms pc (ao_il i 2) := by
  intro p e s m args below meth c V Ret L st h u1 u2 K ho hK H locs ls hP hS hl
  dsimp only [ao_il] at ho
  split at ho
  · rename_i hg
    exact lv_iload V.1 V.2.1 hd (ax_lr_get hl hg) (hK _ ho H locs ls hP hS hl)
  · exact ho.elim
def ao_ll (i len : Nat) : ax_O := fun _ σ K => match σ with
  | (pc, L, st, h, u1, u2) => match ax_g L i with
    | some (.long x) => K (pc + len, L, .long x :: st, h, u1, u2)
    | _ => False
theorem ak_lload_n {k : Fin 4} {i : Nat} (hi : (k : Nat) = i) (hd : decode cc pc = .ok (.lload_n k, 1)) : ax_ok g cc nL ret own nm d mc ms pc (ao_ll i 1) := by
  intro p e s m args below meth c V Ret L st h u1 u2 K ho hK H locs ls hP hS hl
  dsimp only [ao_ll] at ho
  split at ho
  · rename_i hg
    exact lv_lload_n V.1 V.2.1 hd hi (ax_lr_get hl hg) (hK _ ho H locs ls hP hS hl)
  · exact ho.elim
theorem ak_lload {i : Nat} (hd : decode cc pc = .ok (.lload i, 2)) : ax_ok g cc nL ret own nm d mc ms pc (ao_ll i 2) := by
  intro p e s m args below meth c V Ret L st h u1 u2 K ho hK H locs ls hP hS hl
  dsimp only [ao_ll] at ho
  split at ho
  · rename_i hg
    exact lv_lload V.1 V.2.1 hd (ax_lr_get hl hg) (hK _ ho H locs ls hP hS hl)
  · exact ho.elim
def ao_al (i len : Nat) : ax_O := fun _ σ K => match σ with
  | (pc, L, st, h, u1, u2) => match ax_g L i with
    | some (.ref x) => K (pc + len, L, .ref x :: st, h, u1, u2)
    | some .null => K (pc + len, L, .null :: st, h, u1, u2)
    | _ => False
theorem ak_aload_n {k : Fin 4} {i : Nat} (hi : (k : Nat) = i) (hd : decode cc pc = .ok (.aload_n k, 1)) : ax_ok g cc nL ret own nm d mc ms pc (ao_al i 1) := by
  intro p e s m args below meth c V Ret L st h u1 u2 K ho hK H locs ls hP hS hl
  dsimp only [ao_al] at ho
  split at ho
  · rename_i hg
    exact lv_aload_n V.1 V.2.1 hd hi (ax_lr_get hl hg) (hK _ ho H locs ls hP hS hl)
  · rename_i hg
    exact lv_aload_nN V.1 V.2.1 hd hi (ax_lr_get hl hg) (hK _ ho H locs ls hP hS hl)
  · exact ho.elim
theorem ak_aload {i : Nat} (hd : decode cc pc = .ok (.aload i, 2)) : ax_ok g cc nL ret own nm d mc ms pc (ao_al i 2) := by
  intro p e s m args below meth c V Ret L st h u1 u2 K ho hK H locs ls hP hS hl
  dsimp only [ao_al] at ho
  split at ho
  · rename_i hg
    exact lv_aload V.1 V.2.1 hd (ax_lr_get hl hg) (hK _ ho H locs ls hP hS hl)
  · rename_i hg
    exact lv_aloadN V.1 V.2.1 hd (ax_lr_get hl hg) (hK _ ho H locs ls hP hS hl)
  · exact ho.elim
def ao_is (i len : Nat) : ax_O := fun _ σ K => match σ with
  | (pc, L, st, h, u1, u2) => match st with
    | .int x :: r => K (pc + len, ax_st L i (.int x), r, h, u1, u2)
    | _ => False
theorem ak_istore_n {k : Fin 4} {i : Nat} (hi : (k : Nat) = i) (hn : i < nL) (hd : decode cc pc = .ok (.istore_n k, 1)) : ax_ok g cc nL ret own nm d mc ms pc (ao_is i 1) := by
  intro p e s m args below meth c V Ret L st h u1 u2 K ho hK H locs ls hP hS hl
  dsimp only [ao_is] at ho
  split at ho
  · exact lv_istore_n V.1 V.2.1 hd hi hl hn rfl (fun ls' hl' => hK _ ho H locs ls' hP hS (ax_lr_st hl'))
  · exact ho.elim
theorem ak_istore {i : Nat} (hn : i < nL) (hd : decode cc pc = .ok (.istore i, 2)) : ax_ok g cc nL ret own nm d mc ms pc (ao_is i 2) := by
  intro p e s m args below meth c V Ret L st h u1 u2 K ho hK H locs ls hP hS hl
  dsimp only [ao_is] at ho
  split at ho
  · exact lv_istore V.1 V.2.1 hd hl hn rfl (fun ls' hl' => hK _ ho H locs ls' hP hS (ax_lr_st hl'))
  · exact ho.elim
def ao_ls (i len : Nat) : ax_O := fun _ σ K => match σ with
  | (pc, L, st, h, u1, u2) => match st with
    | .long x :: r => K (pc + len, ax_st2 L i (.long x), r, h, u1, u2)
    | _ => False
theorem ak_lstore_n {k : Fin 4} {i : Nat} (hi : (k : Nat) = i) (hn : i + 1 < nL) (hd : decode cc pc = .ok (.lstore_n k, 1)) : ax_ok g cc nL ret own nm d mc ms pc (ao_ls i 1) := by
  intro p e s m args below meth c V Ret L st h u1 u2 K ho hK H locs ls hP hS hl
  dsimp only [ao_ls] at ho
  split at ho
  · exact lv_lstore_n V.1 V.2.1 hd hi hl hn rfl (fun ls' hl' => hK _ ho H locs ls' hP hS (ax_lr_st2 hl'))
  · exact ho.elim
theorem ak_lstore {i : Nat} (hn : i + 1 < nL) (hd : decode cc pc = .ok (.lstore i, 2)) : ax_ok g cc nL ret own nm d mc ms pc (ao_ls i 2) := by
  intro p e s m args below meth c V Ret L st h u1 u2 K ho hK H locs ls hP hS hl
  dsimp only [ao_ls] at ho
  split at ho
  · exact lv_lstore V.1 V.2.1 hd hl hn rfl (fun ls' hl' => hK _ ho H locs ls' hP hS (ax_lr_st2 hl'))
  · exact ho.elim
def ao_as (i len : Nat) : ax_O := fun _ σ K => match σ with
  | (pc, L, st, h, u1, u2) => match st with
    | .ref x :: r => K (pc + len, ax_st L i (.ref x), r, h, u1, u2)
    | .null :: r => K (pc + len, ax_st L i .null, r, h, u1, u2)
    | _ => False
theorem ak_astore_n {k : Fin 4} {i : Nat} (hi : (k : Nat) = i) (hn : i < nL) (hd : decode cc pc = .ok (.astore_n k, 1)) : ax_ok g cc nL ret own nm d mc ms pc (ao_as i 1) := by
  intro p e s m args below meth c V Ret L st h u1 u2 K ho hK H locs ls hP hS hl
  dsimp only [ao_as] at ho
  split at ho
  · exact lv_astore_n V.1 V.2.1 hd hi hl hn rfl (fun ls' hl' => hK _ ho H locs ls' hP hS (ax_lr_st hl'))
  · exact lv_astore_nN V.1 V.2.1 hd hi hl hn rfl (fun ls' hl' => hK _ ho H locs ls' hP hS (ax_lr_st hl'))
  · exact ho.elim
theorem ak_astore {i : Nat} (hn : i < nL) (hd : decode cc pc = .ok (.astore i, 2)) : ax_ok g cc nL ret own nm d mc ms pc (ao_as i 2) := by
  intro p e s m args below meth c V Ret L st h u1 u2 K ho hK H locs ls hP hS hl
  dsimp only [ao_as] at ho
  split at ho
  · exact lv_astore V.1 V.2.1 hd hl hn rfl (fun ls' hl' => hK _ ho H locs ls' hP hS (ax_lr_st hl'))
  · exact lv_astoreN V.1 V.2.1 hd hl hn rfl (fun ls' hl' => hK _ ho H locs ls' hP hS (ax_lr_st hl'))
  · exact ho.elim
def ao_iinc (i : Nat) (v : Int32) : ax_O := fun _ σ K => match σ with
  | (pc, L, st, h, u1, u2) => match ax_g L i with
    | some (.int x) => K (pc + 3, ax_st L i (.int (x + v)), st, h, u1, u2)
    | _ => False
theorem ak_iinc {i : Nat} {n : Int} {v : Int32} (hv : Int32.ofInt n = v) (hn : i < nL) (hd : decode cc pc = .ok (.iinc i n, 3)) : ax_ok g cc nL ret own nm d mc ms pc (ao_iinc i v) := by
  intro p e s m args below meth c V Ret L st h u1 u2 K ho hK H locs ls hP hS hl
  dsimp only [ao_iinc] at ho
  subst hv
  split at ho
  · rename_i x hg
    have hm : (i, Value.int x) ∈ ax_as 0 (L.map (Option.map (ax_v g))) := (ax_as_mem _ _ _ _).mpr ⟨Nat.zero_le _, by rw [Nat.sub_zero, List.getElem?_map, ax_g_get _ _ _ hg]; rfl⟩
    obtain ⟨k, hk⟩ := List.getElem?_of_mem hm
    exact lv_iinc V.1 V.2.1 hd hl hk rfl hn rfl (fun ls' hl' => hK _ ho H locs ls' hP hS (ax_lr_st (v := .int (x + Int32.ofInt n)) hl'))
  · exact ho.elim
def ao_if_eq (tgt : Nat) : ax_O := fun _ σ K => match σ with
  | (pc, L, st, h, u1, u2) => match st with
    | .int x :: r => ((x = 0) → K (tgt, L, r, h, u1, u2)) ∧ ((¬ (x = 0)) → K (pc + 3, L, r, h, u1, u2))
    | _ => False
theorem ak_if_eq {off : Int} {tgt : Nat} (ht : (pc : Int) + off = (tgt : Int)) (hd : decode cc pc = .ok (.ifCond .eq off, 3)) : ax_ok g cc nL ret own nm d mc ms pc (ao_if_eq tgt) := by
  intro p e s m args below meth c V Ret L st h u1 u2 K ho hK H locs ls hP hS hl
  dsimp only [ao_if_eq] at ho
  split at ho
  · exact lv_if_eq V.1 V.2.1 hd ht (fun q => hK _ (ho.1 q) H locs ls hP hS hl) (fun q => hK _ (ho.2 q) H locs ls hP hS hl)
  · exact ho.elim
def ao_icmp_eq (tgt : Nat) : ax_O := fun _ σ K => match σ with
  | (pc, L, st, h, u1, u2) => match st with
    | .int y :: .int x :: r => ((x = y) → K (tgt, L, r, h, u1, u2)) ∧ ((¬ (x = y)) → K (pc + 3, L, r, h, u1, u2))
    | _ => False
theorem ak_icmp_eq {off : Int} {tgt : Nat} (ht : (pc : Int) + off = (tgt : Int)) (hd : decode cc pc = .ok (.if_icmp .eq off, 3)) : ax_ok g cc nL ret own nm d mc ms pc (ao_icmp_eq tgt) := by
  intro p e s m args below meth c V Ret L st h u1 u2 K ho hK H locs ls hP hS hl
  dsimp only [ao_icmp_eq] at ho
  split at ho
  · exact lv_icmp_eq V.1 V.2.1 hd ht (fun q => hK _ (ho.1 q) H locs ls hP hS hl) (fun q => hK _ (ho.2 q) H locs ls hP hS hl)
  · exact ho.elim
def ao_if_ne (tgt : Nat) : ax_O := fun _ σ K => match σ with
  | (pc, L, st, h, u1, u2) => match st with
    | .int x :: r => ((¬ x = 0) → K (tgt, L, r, h, u1, u2)) ∧ ((x = 0) → K (pc + 3, L, r, h, u1, u2))
    | _ => False
theorem ak_if_ne {off : Int} {tgt : Nat} (ht : (pc : Int) + off = (tgt : Int)) (hd : decode cc pc = .ok (.ifCond .ne off, 3)) : ax_ok g cc nL ret own nm d mc ms pc (ao_if_ne tgt) := by
  intro p e s m args below meth c V Ret L st h u1 u2 K ho hK H locs ls hP hS hl
  dsimp only [ao_if_ne] at ho
  split at ho
  · exact lv_if_ne V.1 V.2.1 hd ht (fun q => hK _ (ho.1 q) H locs ls hP hS hl) (fun q => hK _ (ho.2 q) H locs ls hP hS hl)
  · exact ho.elim
def ao_icmp_ne (tgt : Nat) : ax_O := fun _ σ K => match σ with
  | (pc, L, st, h, u1, u2) => match st with
    | .int y :: .int x :: r => ((¬ x = y) → K (tgt, L, r, h, u1, u2)) ∧ ((x = y) → K (pc + 3, L, r, h, u1, u2))
    | _ => False
theorem ak_icmp_ne {off : Int} {tgt : Nat} (ht : (pc : Int) + off = (tgt : Int)) (hd : decode cc pc = .ok (.if_icmp .ne off, 3)) : ax_ok g cc nL ret own nm d mc ms pc (ao_icmp_ne tgt) := by
  intro p e s m args below meth c V Ret L st h u1 u2 K ho hK H locs ls hP hS hl
  dsimp only [ao_icmp_ne] at ho
  split at ho
  · exact lv_icmp_ne V.1 V.2.1 hd ht (fun q => hK _ (ho.1 q) H locs ls hP hS hl) (fun q => hK _ (ho.2 q) H locs ls hP hS hl)
  · exact ho.elim
def ao_if_lt (tgt : Nat) : ax_O := fun _ σ K => match σ with
  | (pc, L, st, h, u1, u2) => match st with
    | .int x :: r => ((x < 0) → K (tgt, L, r, h, u1, u2)) ∧ ((¬ (x < 0)) → K (pc + 3, L, r, h, u1, u2))
    | _ => False
theorem ak_if_lt {off : Int} {tgt : Nat} (ht : (pc : Int) + off = (tgt : Int)) (hd : decode cc pc = .ok (.ifCond .lt off, 3)) : ax_ok g cc nL ret own nm d mc ms pc (ao_if_lt tgt) := by
  intro p e s m args below meth c V Ret L st h u1 u2 K ho hK H locs ls hP hS hl
  dsimp only [ao_if_lt] at ho
  split at ho
  · exact lv_if_lt V.1 V.2.1 hd ht (fun q => hK _ (ho.1 q) H locs ls hP hS hl) (fun q => hK _ (ho.2 q) H locs ls hP hS hl)
  · exact ho.elim
def ao_icmp_lt (tgt : Nat) : ax_O := fun _ σ K => match σ with
  | (pc, L, st, h, u1, u2) => match st with
    | .int y :: .int x :: r => ((x < y) → K (tgt, L, r, h, u1, u2)) ∧ ((¬ (x < y)) → K (pc + 3, L, r, h, u1, u2))
    | _ => False
theorem ak_icmp_lt {off : Int} {tgt : Nat} (ht : (pc : Int) + off = (tgt : Int)) (hd : decode cc pc = .ok (.if_icmp .lt off, 3)) : ax_ok g cc nL ret own nm d mc ms pc (ao_icmp_lt tgt) := by
  intro p e s m args below meth c V Ret L st h u1 u2 K ho hK H locs ls hP hS hl
  dsimp only [ao_icmp_lt] at ho
  split at ho
  · exact lv_icmp_lt V.1 V.2.1 hd ht (fun q => hK _ (ho.1 q) H locs ls hP hS hl) (fun q => hK _ (ho.2 q) H locs ls hP hS hl)
  · exact ho.elim
def ao_if_ge (tgt : Nat) : ax_O := fun _ σ K => match σ with
  | (pc, L, st, h, u1, u2) => match st with
    | .int x :: r => ((0 ≤ x) → K (tgt, L, r, h, u1, u2)) ∧ ((¬ (0 ≤ x)) → K (pc + 3, L, r, h, u1, u2))
    | _ => False
theorem ak_if_ge {off : Int} {tgt : Nat} (ht : (pc : Int) + off = (tgt : Int)) (hd : decode cc pc = .ok (.ifCond .ge off, 3)) : ax_ok g cc nL ret own nm d mc ms pc (ao_if_ge tgt) := by
  intro p e s m args below meth c V Ret L st h u1 u2 K ho hK H locs ls hP hS hl
  dsimp only [ao_if_ge] at ho
  split at ho
  · exact lv_if_ge V.1 V.2.1 hd ht (fun q => hK _ (ho.1 q) H locs ls hP hS hl) (fun q => hK _ (ho.2 q) H locs ls hP hS hl)
  · exact ho.elim
def ao_icmp_ge (tgt : Nat) : ax_O := fun _ σ K => match σ with
  | (pc, L, st, h, u1, u2) => match st with
    | .int y :: .int x :: r => ((y ≤ x) → K (tgt, L, r, h, u1, u2)) ∧ ((¬ (y ≤ x)) → K (pc + 3, L, r, h, u1, u2))
    | _ => False
theorem ak_icmp_ge {off : Int} {tgt : Nat} (ht : (pc : Int) + off = (tgt : Int)) (hd : decode cc pc = .ok (.if_icmp .ge off, 3)) : ax_ok g cc nL ret own nm d mc ms pc (ao_icmp_ge tgt) := by
  intro p e s m args below meth c V Ret L st h u1 u2 K ho hK H locs ls hP hS hl
  dsimp only [ao_icmp_ge] at ho
  split at ho
  · exact lv_icmp_ge V.1 V.2.1 hd ht (fun q => hK _ (ho.1 q) H locs ls hP hS hl) (fun q => hK _ (ho.2 q) H locs ls hP hS hl)
  · exact ho.elim
def ao_if_gt (tgt : Nat) : ax_O := fun _ σ K => match σ with
  | (pc, L, st, h, u1, u2) => match st with
    | .int x :: r => ((0 < x) → K (tgt, L, r, h, u1, u2)) ∧ ((¬ (0 < x)) → K (pc + 3, L, r, h, u1, u2))
    | _ => False
theorem ak_if_gt {off : Int} {tgt : Nat} (ht : (pc : Int) + off = (tgt : Int)) (hd : decode cc pc = .ok (.ifCond .gt off, 3)) : ax_ok g cc nL ret own nm d mc ms pc (ao_if_gt tgt) := by
  intro p e s m args below meth c V Ret L st h u1 u2 K ho hK H locs ls hP hS hl
  dsimp only [ao_if_gt] at ho
  split at ho
  · exact lv_if_gt V.1 V.2.1 hd ht (fun q => hK _ (ho.1 q) H locs ls hP hS hl) (fun q => hK _ (ho.2 q) H locs ls hP hS hl)
  · exact ho.elim
def ao_icmp_gt (tgt : Nat) : ax_O := fun _ σ K => match σ with
  | (pc, L, st, h, u1, u2) => match st with
    | .int y :: .int x :: r => ((y < x) → K (tgt, L, r, h, u1, u2)) ∧ ((¬ (y < x)) → K (pc + 3, L, r, h, u1, u2))
    | _ => False
theorem ak_icmp_gt {off : Int} {tgt : Nat} (ht : (pc : Int) + off = (tgt : Int)) (hd : decode cc pc = .ok (.if_icmp .gt off, 3)) : ax_ok g cc nL ret own nm d mc ms pc (ao_icmp_gt tgt) := by
  intro p e s m args below meth c V Ret L st h u1 u2 K ho hK H locs ls hP hS hl
  dsimp only [ao_icmp_gt] at ho
  split at ho
  · exact lv_icmp_gt V.1 V.2.1 hd ht (fun q => hK _ (ho.1 q) H locs ls hP hS hl) (fun q => hK _ (ho.2 q) H locs ls hP hS hl)
  · exact ho.elim
def ao_if_le (tgt : Nat) : ax_O := fun _ σ K => match σ with
  | (pc, L, st, h, u1, u2) => match st with
    | .int x :: r => ((x ≤ 0) → K (tgt, L, r, h, u1, u2)) ∧ ((¬ (x ≤ 0)) → K (pc + 3, L, r, h, u1, u2))
    | _ => False
theorem ak_if_le {off : Int} {tgt : Nat} (ht : (pc : Int) + off = (tgt : Int)) (hd : decode cc pc = .ok (.ifCond .le off, 3)) : ax_ok g cc nL ret own nm d mc ms pc (ao_if_le tgt) := by
  intro p e s m args below meth c V Ret L st h u1 u2 K ho hK H locs ls hP hS hl
  dsimp only [ao_if_le] at ho
  split at ho
  · exact lv_if_le V.1 V.2.1 hd ht (fun q => hK _ (ho.1 q) H locs ls hP hS hl) (fun q => hK _ (ho.2 q) H locs ls hP hS hl)
  · exact ho.elim
def ao_icmp_le (tgt : Nat) : ax_O := fun _ σ K => match σ with
  | (pc, L, st, h, u1, u2) => match st with
    | .int y :: .int x :: r => ((x ≤ y) → K (tgt, L, r, h, u1, u2)) ∧ ((¬ (x ≤ y)) → K (pc + 3, L, r, h, u1, u2))
    | _ => False
theorem ak_icmp_le {off : Int} {tgt : Nat} (ht : (pc : Int) + off = (tgt : Int)) (hd : decode cc pc = .ok (.if_icmp .le off, 3)) : ax_ok g cc nL ret own nm d mc ms pc (ao_icmp_le tgt) := by
  intro p e s m args below meth c V Ret L st h u1 u2 K ho hK H locs ls hP hS hl
  dsimp only [ao_icmp_le] at ho
  split at ho
  · exact lv_icmp_le V.1 V.2.1 hd ht (fun q => hK _ (ho.1 q) H locs ls hP hS hl) (fun q => hK _ (ho.2 q) H locs ls hP hS hl)
  · exact ho.elim
def ao_goto (tgt : Nat) : ax_O := fun _ σ K => match σ with
  | (pc, L, st, h, u1, u2) => K (tgt, L, st, h, u1, u2)
theorem ak_goto {off : Int} {tgt : Nat} (ht : (pc : Int) + off = (tgt : Int)) (hd : decode cc pc = .ok (.goto off, 3)) : ax_ok g cc nL ret own nm d mc ms pc (ao_goto tgt) := by
  intro p e s m args below meth c V Ret L st h u1 u2 K ho hK H locs ls hP hS hl
  dsimp only [ao_goto] at ho
  exact lv_goto V.1 V.2.1 hd ht (hK _ ho H locs ls hP hS hl)
def ao_ifnull (tgt : Nat) : ax_O := fun _ σ K => match σ with
  | (pc, L, st, h, u1, u2) => match st with
    | .ref _ :: r => K (pc + 3, L, r, h, u1, u2)
    | .null :: r => K (tgt, L, r, h, u1, u2)
    | _ => False
theorem ak_ifnull {off : Int} {tgt : Nat} (ht : (pc : Int) + off = (tgt : Int)) (hd : decode cc pc = .ok (.ifnull off, 3)) : ax_ok g cc nL ret own nm d mc ms pc (ao_ifnull tgt) := by
  intro p e s m args below meth c V Ret L st h u1 u2 K ho hK H locs ls hP hS hl
  dsimp only [ao_ifnull] at ho
  split at ho
  · exact lv_ifnull V.1 V.2.1 hd (hK _ ho H locs ls hP hS hl)
  · exact lv_ifnullN V.1 V.2.1 hd ht (hK _ ho H locs ls hP hS hl)
  · exact ho.elim
def ao_ifnonnull (tgt : Nat) : ax_O := fun _ σ K => match σ with
  | (pc, L, st, h, u1, u2) => match st with
    | .ref _ :: r => K (tgt, L, r, h, u1, u2)
    | .null :: r => K (pc + 3, L, r, h, u1, u2)
    | _ => False
theorem ak_ifnonnull {off : Int} {tgt : Nat} (ht : (pc : Int) + off = (tgt : Int)) (hd : decode cc pc = .ok (.ifnonnull off, 3)) : ax_ok g cc nL ret own nm d mc ms pc (ao_ifnonnull tgt) := by
  intro p e s m args below meth c V Ret L st h u1 u2 K ho hK H locs ls hP hS hl
  dsimp only [ao_ifnonnull] at ho
  split at ho
  · exact lv_ifnonnull V.1 V.2.1 hd ht (hK _ ho H locs ls hP hS hl)
  · exact lv_ifnonnullN V.1 V.2.1 hd (hK _ ho H locs ls hP hS hl)
  · exact ho.elim
end
