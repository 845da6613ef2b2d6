section
/-! an instruction, read off its bytes -/
def byt (c : ByteArray) (p b : Nat) : Prop := ∃ h : p < c.size, c[p].toNat = b
theorem u1_at {c : ByteArray} {p b : Nat} (h : byt c p b) : (Jvm.ClassFile.Reader.u1 : Jvm.ClassFile.Decoder Nat) c p = .ok (b, p + 1) := by
  obtain ⟨h1, h2⟩ := h
  have e : (Jvm.ClassFile.Reader.u1 : Jvm.ClassFile.Decoder Nat) c p = (if h : p < c.size then .ok (c[p].toNat, p + 1) else .error (Jvm.ClassFile.DecodeError.truncated p)) := by
    unfold Jvm.ClassFile.Reader.u1
    show (if h : p < c.size then (_ : Jvm.ClassFile.Decoder Nat) else _) c p = _
    split <;> rfl
  rw [e, dif_pos h1, h2]
def bq1 (c : ByteArray) (p a : Nat) : Bool := match c.data.toList.drop p with
  | x :: _ => x.toNat == a
  | _ => false
def bq2 (c : ByteArray) (p a b : Nat) : Bool := match c.data.toList.drop p with
  | x :: y :: _ => x.toNat == a && y.toNat == b
  | _ => false
def bq3 (c : ByteArray) (p a b d : Nat) : Bool := match c.data.toList.drop p with
  | x :: y :: z :: _ => x.toNat == a && (y.toNat == b && z.toNat == d)
  | _ => false
theorem byt_i {c : ByteArray} {p i : Nat} {x : UInt8} (h : (c.data.toList.drop p)[i]? = some x) : byt c (p + i) x.toNat := by
  rw [List.getElem?_drop] at h
  obtain ⟨h1, h2⟩ := List.getElem?_eq_some_iff.mp h
  exact ⟨h1, by rw [← h2]; rfl⟩
theorem bq1_at {c : ByteArray} {p a : Nat} (h : bq1 c p a = true) : byt c p a := by
  unfold bq1 at h
  split at h
  · rename_i x t e
    have := byt_i (c := c) (p := p) (i := 0) (x := x) (by rw [e]; rfl)
    rw [← eq_of_beq h]; exact this
  · cases h
theorem bq2_at {c : ByteArray} {p a b : Nat} (h : bq2 c p a b = true) : byt c p a ∧ byt c (p + 1) b := by
  unfold bq2 at h
  split at h
  · rename_i x y t e
    rw [Bool.and_eq_true] at h
    rw [← eq_of_beq h.1, ← eq_of_beq h.2]
    exact ⟨byt_i (c := c) (p := p) (i := 0) (x := x) (by rw [e]; rfl), byt_i (c := c) (p := p) (i := 1) (x := y) (by rw [e]; rfl)⟩
  · cases h
theorem bq3_at {c : ByteArray} {p a b d : Nat} (h : bq3 c p a b d = true) : byt c p a ∧ byt c (p + 1) b ∧ byt c (p + 1 + 1) d := by
  unfold bq3 at h
  split at h
  · rename_i x y z t e
    rw [Bool.and_eq_true, Bool.and_eq_true] at h
    rw [← eq_of_beq h.1, ← eq_of_beq h.2.1, ← eq_of_beq h.2.2]
    exact ⟨byt_i (c := c) (p := p) (i := 0) (x := x) (by rw [e]; rfl), byt_i (c := c) (p := p) (i := 1) (x := y) (by rw [e]; rfl), byt_i (c := c) (p := p) (i := 2) (x := z) (by rw [e]; rfl)⟩
  · cases h
theorem bind_at {α β : Type} {x : Jvm.ClassFile.Decoder α} {f : α → Jvm.ClassFile.Decoder β} {c : ByteArray} {p q : Nat} {a : α} {r : Except Jvm.ClassFile.DecodeError (β × Nat)} (h : x c p = .ok (a, q)) (e : f a c q = r) : (x >>= f) c p = r := by
  show (x c p >>= fun t => f t.1 c t.2) = _
  rw [h]
  exact e
theorem u2_at {c : ByteArray} {p b d : Nat} (h : byt c p b ∧ byt c (p + 1) d) : (Jvm.ClassFile.Reader.u2 : Jvm.ClassFile.Decoder Nat) c p = .ok (b * 256 + d, p + 1 + 1) := bind_at (u1_at h.1) (bind_at (u1_at h.2) rfl)
theorem s1_at {c : ByteArray} {p b : Nat} {z : Int} (h : byt c p b) (e : Jvm.ClassFile.Reader.signed 8 b = z) : (Jvm.ClassFile.Reader.s1 : Jvm.ClassFile.Decoder Int) c p = .ok (z, p + 1) := by
  show (Jvm.ClassFile.Reader.u1 (ε := Jvm.ClassFile.DecodeError) c p >>= fun t => pure (Jvm.ClassFile.Reader.signed 8 t.1, t.2)) = _
  rw [u1_at h, ← e]
  rfl
theorem s2_at {c : ByteArray} {p b d : Nat} {z : Int} (h : byt c p b ∧ byt c (p + 1) d) (e : Jvm.ClassFile.Reader.signed 16 (b * 256 + d) = z) : (Jvm.ClassFile.Reader.s2 : Jvm.ClassFile.Decoder Int) c p = .ok (z, p + 1 + 1) := by
  show (Jvm.ClassFile.Reader.u2 (ε := Jvm.ClassFile.DecodeError) c p >>= fun t => pure (Jvm.ClassFile.Reader.signed 16 t.1, t.2)) = _
  rw [u2_at h, ← e]
  rfl
theorem dec_at {c : ByteArray} {p q n : Nat} {i : Jvm.ClassFile.Instr} (e : (Jvm.ClassFile.Decoder.instr p) c p = .ok (i, q)) (hn : q - p = n) : decode c p = .ok (i, n) := by
  unfold decode
  show ((Jvm.ClassFile.Decoder.instr p) c p >>= fun t => pure (t.1, t.2 - p)) = _
  rw [e, ← hn]
  rfl

theorem q_1 {c : ByteArray} {p n : Nat} (hn : p + 1 - p = n) (h : bq1 c p 1 = true) : decode c p = .ok (.aconst_null, n) := dec_at (bind_at (u1_at (bq1_at h)) rfl) hn
theorem q_2 {c : ByteArray} {p n : Nat} (hn : p + 1 - p = n) (h : bq1 c p 2 = true) : decode c p = .ok (.iconst (-1), n) := dec_at (bind_at (u1_at (bq1_at h)) rfl) hn
theorem q_3 {c : ByteArray} {p n : Nat} (hn : p + 1 - p = n) (h : bq1 c p 3 = true) : decode c p = .ok (.iconst 0, n) := dec_at (bind_at (u1_at (bq1_at h)) rfl) hn
theorem q_4 {c : ByteArray} {p n : Nat} (hn : p + 1 - p = n) (h : bq1 c p 4 = true) : decode c p = .ok (.iconst 1, n) := dec_at (bind_at (u1_at (bq1_at h)) rfl) hn
theorem q_5 {c : ByteArray} {p n : Nat} (hn : p + 1 - p = n) (h : bq1 c p 5 = true) : decode c p = .ok (.iconst 2, n) := dec_at (bind_at (u1_at (bq1_at h)) rfl) hn
theorem q_6 {c : ByteArray} {p n : Nat} (hn : p + 1 - p = n) (h : bq1 c p 6 = true) : decode c p = .ok (.iconst 3, n) := dec_at (bind_at (u1_at (bq1_at h)) rfl) hn
theorem q_7 {c : ByteArray} {p n : Nat} (hn : p + 1 - p = n) (h : bq1 c p 7 = true) : decode c p = .ok (.iconst 4, n) := dec_at (bind_at (u1_at (bq1_at h)) rfl) hn
theorem q_8 {c : ByteArray} {p n : Nat} (hn : p + 1 - p = n) (h : bq1 c p 8 = true) : decode c p = .ok (.iconst 5, n) := dec_at (bind_at (u1_at (bq1_at h)) rfl) hn
theorem q_9 {c : ByteArray} {p n : Nat} (hn : p + 1 - p = n) (h : bq1 c p 9 = true) : decode c p = .ok (.lconst 0, n) := dec_at (bind_at (u1_at (bq1_at h)) rfl) hn
theorem q_10 {c : ByteArray} {p n : Nat} (hn : p + 1 - p = n) (h : bq1 c p 10 = true) : decode c p = .ok (.lconst 1, n) := dec_at (bind_at (u1_at (bq1_at h)) rfl) hn
theorem q_16 {c : ByteArray} {p n b : Nat} {z : Int} (hn : p + 1 + 1 - p = n) (e : Jvm.ClassFile.Reader.signed 8 b = z) (h : bq2 c p 16 b = true) : decode c p = .ok (.bipush z, n) := dec_at (bind_at (u1_at (bq2_at h).1) (bind_at (s1_at (bq2_at h).2 e) rfl)) hn
theorem q_17 {c : ByteArray} {p n b d : Nat} {z : Int} (hn : p + 1 + 1 + 1 - p = n) (e : Jvm.ClassFile.Reader.signed 16 (b * 256 + d) = z) (h : bq3 c p 17 b d = true) : decode c p = .ok (.sipush z, n) := dec_at (bind_at (u1_at (bq3_at h).1) (bind_at (s2_at (bq3_at h).2 e) rfl)) hn
theorem q_18 {c : ByteArray} {p n b : Nat} (hn : p + 1 + 1 - p = n) (h : bq2 c p 18 b = true) : decode c p = .ok (.ldc b, n) := dec_at (bind_at (u1_at (bq2_at h).1) (bind_at (u1_at (bq2_at h).2) rfl)) hn
theorem q_19 {c : ByteArray} {p n b d : Nat} (hn : p + 1 + 1 + 1 - p = n) (h : bq3 c p 19 b d = true) : decode c p = .ok (.ldc_w (b * 256 + d), n) := dec_at (bind_at (u1_at (bq3_at h).1) (bind_at (u2_at (bq3_at h).2) rfl)) hn
theorem q_20 {c : ByteArray} {p n b d : Nat} (hn : p + 1 + 1 + 1 - p = n) (h : bq3 c p 20 b d = true) : decode c p = .ok (.ldc2_w (b * 256 + d), n) := dec_at (bind_at (u1_at (bq3_at h).1) (bind_at (u2_at (bq3_at h).2) rfl)) hn
theorem q_21 {c : ByteArray} {p n b : Nat} (hn : p + 1 + 1 - p = n) (h : bq2 c p 21 b = true) : decode c p = .ok (.iload b, n) := dec_at (bind_at (u1_at (bq2_at h).1) (bind_at (u1_at (bq2_at h).2) rfl)) hn
theorem q_22 {c : ByteArray} {p n b : Nat} (hn : p + 1 + 1 - p = n) (h : bq2 c p 22 b = true) : decode c p = .ok (.lload b, n) := dec_at (bind_at (u1_at (bq2_at h).1) (bind_at (u1_at (bq2_at h).2) rfl)) hn
theorem q_25 {c : ByteArray} {p n b : Nat} (hn : p + 1 + 1 - p = n) (h : bq2 c p 25 b = true) : decode c p = .ok (.aload b, n) := dec_at (bind_at (u1_at (bq2_at h).1) (bind_at (u1_at (bq2_at h).2) rfl)) hn
theorem q_26 {c : ByteArray} {p n : Nat} (hn : p + 1 - p = n) (h : bq1 c p 26 = true) : decode c p = .ok (.iload_n 0, n) := dec_at (bind_at (u1_at (bq1_at h)) rfl) hn
theorem q_27 {c : ByteArray} {p n : Nat} (hn : p + 1 - p = n) (h : bq1 c p 27 = true) : decode c p = .ok (.iload_n 1, n) := dec_at (bind_at (u1_at (bq1_at h)) rfl) hn
theorem q_28 {c : ByteArray} {p n : Nat} (hn : p + 1 - p = n) (h : bq1 c p 28 = true) : decode c p = .ok (.iload_n 2, n) := dec_at (bind_at (u1_at (bq1_at h)) rfl) hn
theorem q_29 {c : ByteArray} {p n : Nat} (hn : p + 1 - p = n) (h : bq1 c p 29 = true) : decode c p = .ok (.iload_n 3, n) := dec_at (bind_at (u1_at (bq1_at h)) rfl) hn
theorem q_30 {c : ByteArray} {p n : Nat} (hn : p + 1 - p = n) (h : bq1 c p 30 = true) : decode c p = .ok (.lload_n 0, n) := dec_at (bind_at (u1_at (bq1_at h)) rfl) hn
theorem q_31 {c : ByteArray} {p n : Nat} (hn : p + 1 - p = n) (h : bq1 c p 31 = true) : decode c p = .ok (.lload_n 1, n) := dec_at (bind_at (u1_at (bq1_at h)) rfl) hn
theorem q_32 {c : ByteArray} {p n : Nat} (hn : p + 1 - p = n) (h : bq1 c p 32 = true) : decode c p = .ok (.lload_n 2, n) := dec_at (bind_at (u1_at (bq1_at h)) rfl) hn
theorem q_33 {c : ByteArray} {p n : Nat} (hn : p + 1 - p = n) (h : bq1 c p 33 = true) : decode c p = .ok (.lload_n 3, n) := dec_at (bind_at (u1_at (bq1_at h)) rfl) hn
theorem q_42 {c : ByteArray} {p n : Nat} (hn : p + 1 - p = n) (h : bq1 c p 42 = true) : decode c p = .ok (.aload_n 0, n) := dec_at (bind_at (u1_at (bq1_at h)) rfl) hn
theorem q_43 {c : ByteArray} {p n : Nat} (hn : p + 1 - p = n) (h : bq1 c p 43 = true) : decode c p = .ok (.aload_n 1, n) := dec_at (bind_at (u1_at (bq1_at h)) rfl) hn
theorem q_44 {c : ByteArray} {p n : Nat} (hn : p + 1 - p = n) (h : bq1 c p 44 = true) : decode c p = .ok (.aload_n 2, n) := dec_at (bind_at (u1_at (bq1_at h)) rfl) hn
theorem q_45 {c : ByteArray} {p n : Nat} (hn : p + 1 - p = n) (h : bq1 c p 45 = true) : decode c p = .ok (.aload_n 3, n) := dec_at (bind_at (u1_at (bq1_at h)) rfl) hn
theorem q_46 {c : ByteArray} {p n : Nat} (hn : p + 1 - p = n) (h : bq1 c p 46 = true) : decode c p = .ok (.iaload, n) := dec_at (bind_at (u1_at (bq1_at h)) rfl) hn
theorem q_47 {c : ByteArray} {p n : Nat} (hn : p + 1 - p = n) (h : bq1 c p 47 = true) : decode c p = .ok (.laload, n) := dec_at (bind_at (u1_at (bq1_at h)) rfl) hn
theorem q_50 {c : ByteArray} {p n : Nat} (hn : p + 1 - p = n) (h : bq1 c p 50 = true) : decode c p = .ok (.aaload, n) := dec_at (bind_at (u1_at (bq1_at h)) rfl) hn
theorem q_51 {c : ByteArray} {p n : Nat} (hn : p + 1 - p = n) (h : bq1 c p 51 = true) : decode c p = .ok (.baload, n) := dec_at (bind_at (u1_at (bq1_at h)) rfl) hn
theorem q_54 {c : ByteArray} {p n b : Nat} (hn : p + 1 + 1 - p = n) (h : bq2 c p 54 b = true) : decode c p = .ok (.istore b, n) := dec_at (bind_at (u1_at (bq2_at h).1) (bind_at (u1_at (bq2_at h).2) rfl)) hn
theorem q_55 {c : ByteArray} {p n b : Nat} (hn : p + 1 + 1 - p = n) (h : bq2 c p 55 b = true) : decode c p = .ok (.lstore b, n) := dec_at (bind_at (u1_at (bq2_at h).1) (bind_at (u1_at (bq2_at h).2) rfl)) hn
theorem q_58 {c : ByteArray} {p n b : Nat} (hn : p + 1 + 1 - p = n) (h : bq2 c p 58 b = true) : decode c p = .ok (.astore b, n) := dec_at (bind_at (u1_at (bq2_at h).1) (bind_at (u1_at (bq2_at h).2) rfl)) hn
theorem q_60 {c : ByteArray} {p n : Nat} (hn : p + 1 - p = n) (h : bq1 c p 60 = true) : decode c p = .ok (.istore_n 1, n) := dec_at (bind_at (u1_at (bq1_at h)) rfl) hn
theorem q_61 {c : ByteArray} {p n : Nat} (hn : p + 1 - p = n) (h : bq1 c p 61 = true) : decode c p = .ok (.istore_n 2, n) := dec_at (bind_at (u1_at (bq1_at h)) rfl) hn
theorem q_62 {c : ByteArray} {p n : Nat} (hn : p + 1 - p = n) (h : bq1 c p 62 = true) : decode c p = .ok (.istore_n 3, n) := dec_at (bind_at (u1_at (bq1_at h)) rfl) hn
theorem q_64 {c : ByteArray} {p n : Nat} (hn : p + 1 - p = n) (h : bq1 c p 64 = true) : decode c p = .ok (.lstore_n 1, n) := dec_at (bind_at (u1_at (bq1_at h)) rfl) hn
theorem q_65 {c : ByteArray} {p n : Nat} (hn : p + 1 - p = n) (h : bq1 c p 65 = true) : decode c p = .ok (.lstore_n 2, n) := dec_at (bind_at (u1_at (bq1_at h)) rfl) hn
theorem q_66 {c : ByteArray} {p n : Nat} (hn : p + 1 - p = n) (h : bq1 c p 66 = true) : decode c p = .ok (.lstore_n 3, n) := dec_at (bind_at (u1_at (bq1_at h)) rfl) hn
theorem q_76 {c : ByteArray} {p n : Nat} (hn : p + 1 - p = n) (h : bq1 c p 76 = true) : decode c p = .ok (.astore_n 1, n) := dec_at (bind_at (u1_at (bq1_at h)) rfl) hn
theorem q_77 {c : ByteArray} {p n : Nat} (hn : p + 1 - p = n) (h : bq1 c p 77 = true) : decode c p = .ok (.astore_n 2, n) := dec_at (bind_at (u1_at (bq1_at h)) rfl) hn
theorem q_78 {c : ByteArray} {p n : Nat} (hn : p + 1 - p = n) (h : bq1 c p 78 = true) : decode c p = .ok (.astore_n 3, n) := dec_at (bind_at (u1_at (bq1_at h)) rfl) hn
theorem q_79 {c : ByteArray} {p n : Nat} (hn : p + 1 - p = n) (h : bq1 c p 79 = true) : decode c p = .ok (.iastore, n) := dec_at (bind_at (u1_at (bq1_at h)) rfl) hn
theorem q_80 {c : ByteArray} {p n : Nat} (hn : p + 1 - p = n) (h : bq1 c p 80 = true) : decode c p = .ok (.lastore, n) := dec_at (bind_at (u1_at (bq1_at h)) rfl) hn
theorem q_83 {c : ByteArray} {p n : Nat} (hn : p + 1 - p = n) (h : bq1 c p 83 = true) : decode c p = .ok (.aastore, n) := dec_at (bind_at (u1_at (bq1_at h)) rfl) hn
theorem q_84 {c : ByteArray} {p n : Nat} (hn : p + 1 - p = n) (h : bq1 c p 84 = true) : decode c p = .ok (.bastore, n) := dec_at (bind_at (u1_at (bq1_at h)) rfl) hn
theorem q_87 {c : ByteArray} {p n : Nat} (hn : p + 1 - p = n) (h : bq1 c p 87 = true) : decode c p = .ok (.pop, n) := dec_at (bind_at (u1_at (bq1_at h)) rfl) hn
theorem q_88 {c : ByteArray} {p n : Nat} (hn : p + 1 - p = n) (h : bq1 c p 88 = true) : decode c p = .ok (.pop2, n) := dec_at (bind_at (u1_at (bq1_at h)) rfl) hn
theorem q_89 {c : ByteArray} {p n : Nat} (hn : p + 1 - p = n) (h : bq1 c p 89 = true) : decode c p = .ok (.dup, n) := dec_at (bind_at (u1_at (bq1_at h)) rfl) hn
theorem q_92 {c : ByteArray} {p n : Nat} (hn : p + 1 - p = n) (h : bq1 c p 92 = true) : decode c p = .ok (.dup2, n) := dec_at (bind_at (u1_at (bq1_at h)) rfl) hn
theorem q_96 {c : ByteArray} {p n : Nat} (hn : p + 1 - p = n) (h : bq1 c p 96 = true) : decode c p = .ok (.iadd, n) := dec_at (bind_at (u1_at (bq1_at h)) rfl) hn
theorem q_97 {c : ByteArray} {p n : Nat} (hn : p + 1 - p = n) (h : bq1 c p 97 = true) : decode c p = .ok (.ladd, n) := dec_at (bind_at (u1_at (bq1_at h)) rfl) hn
theorem q_100 {c : ByteArray} {p n : Nat} (hn : p + 1 - p = n) (h : bq1 c p 100 = true) : decode c p = .ok (.isub, n) := dec_at (bind_at (u1_at (bq1_at h)) rfl) hn
theorem q_101 {c : ByteArray} {p n : Nat} (hn : p + 1 - p = n) (h : bq1 c p 101 = true) : decode c p = .ok (.lsub, n) := dec_at (bind_at (u1_at (bq1_at h)) rfl) hn
theorem q_104 {c : ByteArray} {p n : Nat} (hn : p + 1 - p = n) (h : bq1 c p 104 = true) : decode c p = .ok (.imul, n) := dec_at (bind_at (u1_at (bq1_at h)) rfl) hn
theorem q_105 {c : ByteArray} {p n : Nat} (hn : p + 1 - p = n) (h : bq1 c p 105 = true) : decode c p = .ok (.lmul, n) := dec_at (bind_at (u1_at (bq1_at h)) rfl) hn
theorem q_108 {c : ByteArray} {p n : Nat} (hn : p + 1 - p = n) (h : bq1 c p 108 = true) : decode c p = .ok (.idiv, n) := dec_at (bind_at (u1_at (bq1_at h)) rfl) hn
theorem q_109 {c : ByteArray} {p n : Nat} (hn : p + 1 - p = n) (h : bq1 c p 109 = true) : decode c p = .ok (.ldiv, n) := dec_at (bind_at (u1_at (bq1_at h)) rfl) hn
theorem q_112 {c : ByteArray} {p n : Nat} (hn : p + 1 - p = n) (h : bq1 c p 112 = true) : decode c p = .ok (.irem, n) := dec_at (bind_at (u1_at (bq1_at h)) rfl) hn
theorem q_113 {c : ByteArray} {p n : Nat} (hn : p + 1 - p = n) (h : bq1 c p 113 = true) : decode c p = .ok (.lrem, n) := dec_at (bind_at (u1_at (bq1_at h)) rfl) hn
theorem q_116 {c : ByteArray} {p n : Nat} (hn : p + 1 - p = n) (h : bq1 c p 116 = true) : decode c p = .ok (.ineg, n) := dec_at (bind_at (u1_at (bq1_at h)) rfl) hn
theorem q_117 {c : ByteArray} {p n : Nat} (hn : p + 1 - p = n) (h : bq1 c p 117 = true) : decode c p = .ok (.lneg, n) := dec_at (bind_at (u1_at (bq1_at h)) rfl) hn
theorem q_120 {c : ByteArray} {p n : Nat} (hn : p + 1 - p = n) (h : bq1 c p 120 = true) : decode c p = .ok (.ishl, n) := dec_at (bind_at (u1_at (bq1_at h)) rfl) hn
theorem q_121 {c : ByteArray} {p n : Nat} (hn : p + 1 - p = n) (h : bq1 c p 121 = true) : decode c p = .ok (.lshl, n) := dec_at (bind_at (u1_at (bq1_at h)) rfl) hn
theorem q_122 {c : ByteArray} {p n : Nat} (hn : p + 1 - p = n) (h : bq1 c p 122 = true) : decode c p = .ok (.ishr, n) := dec_at (bind_at (u1_at (bq1_at h)) rfl) hn
theorem q_123 {c : ByteArray} {p n : Nat} (hn : p + 1 - p = n) (h : bq1 c p 123 = true) : decode c p = .ok (.lshr, n) := dec_at (bind_at (u1_at (bq1_at h)) rfl) hn
theorem q_124 {c : ByteArray} {p n : Nat} (hn : p + 1 - p = n) (h : bq1 c p 124 = true) : decode c p = .ok (.iushr, n) := dec_at (bind_at (u1_at (bq1_at h)) rfl) hn
theorem q_126 {c : ByteArray} {p n : Nat} (hn : p + 1 - p = n) (h : bq1 c p 126 = true) : decode c p = .ok (.iand, n) := dec_at (bind_at (u1_at (bq1_at h)) rfl) hn
theorem q_128 {c : ByteArray} {p n : Nat} (hn : p + 1 - p = n) (h : bq1 c p 128 = true) : decode c p = .ok (.ior, n) := dec_at (bind_at (u1_at (bq1_at h)) rfl) hn
theorem q_129 {c : ByteArray} {p n : Nat} (hn : p + 1 - p = n) (h : bq1 c p 129 = true) : decode c p = .ok (.lor, n) := dec_at (bind_at (u1_at (bq1_at h)) rfl) hn
theorem q_130 {c : ByteArray} {p n : Nat} (hn : p + 1 - p = n) (h : bq1 c p 130 = true) : decode c p = .ok (.ixor, n) := dec_at (bind_at (u1_at (bq1_at h)) rfl) hn
theorem q_132 {c : ByteArray} {p n b d : Nat} {z : Int} (hn : p + 1 + 1 + 1 - p = n) (e : Jvm.ClassFile.Reader.signed 8 d = z) (h : bq3 c p 132 b d = true) : decode c p = .ok (.iinc b z, n) := dec_at (bind_at (u1_at (bq3_at h).1) (bind_at (u1_at (bq3_at h).2.1) (bind_at (s1_at (bq3_at h).2.2 e) rfl))) hn
theorem q_133 {c : ByteArray} {p n : Nat} (hn : p + 1 - p = n) (h : bq1 c p 133 = true) : decode c p = .ok (.i2l, n) := dec_at (bind_at (u1_at (bq1_at h)) rfl) hn
theorem q_136 {c : ByteArray} {p n : Nat} (hn : p + 1 - p = n) (h : bq1 c p 136 = true) : decode c p = .ok (.l2i, n) := dec_at (bind_at (u1_at (bq1_at h)) rfl) hn
theorem q_145 {c : ByteArray} {p n : Nat} (hn : p + 1 - p = n) (h : bq1 c p 145 = true) : decode c p = .ok (.i2b, n) := dec_at (bind_at (u1_at (bq1_at h)) rfl) hn
theorem q_146 {c : ByteArray} {p n : Nat} (hn : p + 1 - p = n) (h : bq1 c p 146 = true) : decode c p = .ok (.i2c, n) := dec_at (bind_at (u1_at (bq1_at h)) rfl) hn
theorem q_148 {c : ByteArray} {p n : Nat} (hn : p + 1 - p = n) (h : bq1 c p 148 = true) : decode c p = .ok (.lcmp, n) := dec_at (bind_at (u1_at (bq1_at h)) rfl) hn
theorem q_153 {c : ByteArray} {p n b d : Nat} {z : Int} (hn : p + 1 + 1 + 1 - p = n) (e : Jvm.ClassFile.Reader.signed 16 (b * 256 + d) = z) (h : bq3 c p 153 b d = true) : decode c p = .ok (.ifCond .eq z, n) := dec_at (bind_at (u1_at (bq3_at h).1) (bind_at (s2_at (bq3_at h).2 e) rfl)) hn
theorem q_154 {c : ByteArray} {p n b d : Nat} {z : Int} (hn : p + 1 + 1 + 1 - p = n) (e : Jvm.ClassFile.Reader.signed 16 (b * 256 + d) = z) (h : bq3 c p 154 b d = true) : decode c p = .ok (.ifCond .ne z, n) := dec_at (bind_at (u1_at (bq3_at h).1) (bind_at (s2_at (bq3_at h).2 e) rfl)) hn
theorem q_155 {c : ByteArray} {p n b d : Nat} {z : Int} (hn : p + 1 + 1 + 1 - p = n) (e : Jvm.ClassFile.Reader.signed 16 (b * 256 + d) = z) (h : bq3 c p 155 b d = true) : decode c p = .ok (.ifCond .lt z, n) := dec_at (bind_at (u1_at (bq3_at h).1) (bind_at (s2_at (bq3_at h).2 e) rfl)) hn
theorem q_156 {c : ByteArray} {p n b d : Nat} {z : Int} (hn : p + 1 + 1 + 1 - p = n) (e : Jvm.ClassFile.Reader.signed 16 (b * 256 + d) = z) (h : bq3 c p 156 b d = true) : decode c p = .ok (.ifCond .ge z, n) := dec_at (bind_at (u1_at (bq3_at h).1) (bind_at (s2_at (bq3_at h).2 e) rfl)) hn
theorem q_158 {c : ByteArray} {p n b d : Nat} {z : Int} (hn : p + 1 + 1 + 1 - p = n) (e : Jvm.ClassFile.Reader.signed 16 (b * 256 + d) = z) (h : bq3 c p 158 b d = true) : decode c p = .ok (.ifCond .le z, n) := dec_at (bind_at (u1_at (bq3_at h).1) (bind_at (s2_at (bq3_at h).2 e) rfl)) hn
theorem q_159 {c : ByteArray} {p n b d : Nat} {z : Int} (hn : p + 1 + 1 + 1 - p = n) (e : Jvm.ClassFile.Reader.signed 16 (b * 256 + d) = z) (h : bq3 c p 159 b d = true) : decode c p = .ok (.if_icmp .eq z, n) := dec_at (bind_at (u1_at (bq3_at h).1) (bind_at (s2_at (bq3_at h).2 e) rfl)) hn
theorem q_160 {c : ByteArray} {p n b d : Nat} {z : Int} (hn : p + 1 + 1 + 1 - p = n) (e : Jvm.ClassFile.Reader.signed 16 (b * 256 + d) = z) (h : bq3 c p 160 b d = true) : decode c p = .ok (.if_icmp .ne z, n) := dec_at (bind_at (u1_at (bq3_at h).1) (bind_at (s2_at (bq3_at h).2 e) rfl)) hn
theorem q_161 {c : ByteArray} {p n b d : Nat} {z : Int} (hn : p + 1 + 1 + 1 - p = n) (e : Jvm.ClassFile.Reader.signed 16 (b * 256 + d) = z) (h : bq3 c p 161 b d = true) : decode c p = .ok (.if_icmp .lt z, n) := dec_at (bind_at (u1_at (bq3_at h).1) (bind_at (s2_at (bq3_at h).2 e) rfl)) hn
theorem q_162 {c : ByteArray} {p n b d : Nat} {z : Int} (hn : p + 1 + 1 + 1 - p = n) (e : Jvm.ClassFile.Reader.signed 16 (b * 256 + d) = z) (h : bq3 c p 162 b d = true) : decode c p = .ok (.if_icmp .ge z, n) := dec_at (bind_at (u1_at (bq3_at h).1) (bind_at (s2_at (bq3_at h).2 e) rfl)) hn
theorem q_163 {c : ByteArray} {p n b d : Nat} {z : Int} (hn : p + 1 + 1 + 1 - p = n) (e : Jvm.ClassFile.Reader.signed 16 (b * 256 + d) = z) (h : bq3 c p 163 b d = true) : decode c p = .ok (.if_icmp .gt z, n) := dec_at (bind_at (u1_at (bq3_at h).1) (bind_at (s2_at (bq3_at h).2 e) rfl)) hn
theorem q_164 {c : ByteArray} {p n b d : Nat} {z : Int} (hn : p + 1 + 1 + 1 - p = n) (e : Jvm.ClassFile.Reader.signed 16 (b * 256 + d) = z) (h : bq3 c p 164 b d = true) : decode c p = .ok (.if_icmp .le z, n) := dec_at (bind_at (u1_at (bq3_at h).1) (bind_at (s2_at (bq3_at h).2 e) rfl)) hn
theorem q_167 {c : ByteArray} {p n b d : Nat} {z : Int} (hn : p + 1 + 1 + 1 - p = n) (e : Jvm.ClassFile.Reader.signed 16 (b * 256 + d) = z) (h : bq3 c p 167 b d = true) : decode c p = .ok (.goto z, n) := dec_at (bind_at (u1_at (bq3_at h).1) (bind_at (s2_at (bq3_at h).2 e) rfl)) hn
theorem q_172 {c : ByteArray} {p n : Nat} (hn : p + 1 - p = n) (h : bq1 c p 172 = true) : decode c p = .ok (.ireturn, n) := dec_at (bind_at (u1_at (bq1_at h)) rfl) hn
theorem q_173 {c : ByteArray} {p n : Nat} (hn : p + 1 - p = n) (h : bq1 c p 173 = true) : decode c p = .ok (.lreturn, n) := dec_at (bind_at (u1_at (bq1_at h)) rfl) hn
theorem q_176 {c : ByteArray} {p n : Nat} (hn : p + 1 - p = n) (h : bq1 c p 176 = true) : decode c p = .ok (.areturn, n) := dec_at (bind_at (u1_at (bq1_at h)) rfl) hn
theorem q_177 {c : ByteArray} {p n : Nat} (hn : p + 1 - p = n) (h : bq1 c p 177 = true) : decode c p = .ok (.return_, n) := dec_at (bind_at (u1_at (bq1_at h)) rfl) hn
theorem q_178 {c : ByteArray} {p n b d : Nat} (hn : p + 1 + 1 + 1 - p = n) (h : bq3 c p 178 b d = true) : decode c p = .ok (.getstatic (b * 256 + d), n) := dec_at (bind_at (u1_at (bq3_at h).1) (bind_at (u2_at (bq3_at h).2) rfl)) hn
theorem q_180 {c : ByteArray} {p n b d : Nat} (hn : p + 1 + 1 + 1 - p = n) (h : bq3 c p 180 b d = true) : decode c p = .ok (.getfield (b * 256 + d), n) := dec_at (bind_at (u1_at (bq3_at h).1) (bind_at (u2_at (bq3_at h).2) rfl)) hn
theorem q_181 {c : ByteArray} {p n b d : Nat} (hn : p + 1 + 1 + 1 - p = n) (h : bq3 c p 181 b d = true) : decode c p = .ok (.putfield (b * 256 + d), n) := dec_at (bind_at (u1_at (bq3_at h).1) (bind_at (u2_at (bq3_at h).2) rfl)) hn
theorem q_182 {c : ByteArray} {p n b d : Nat} (hn : p + 1 + 1 + 1 - p = n) (h : bq3 c p 182 b d = true) : decode c p = .ok (.invokevirtual (b * 256 + d), n) := dec_at (bind_at (u1_at (bq3_at h).1) (bind_at (u2_at (bq3_at h).2) rfl)) hn
theorem q_183 {c : ByteArray} {p n b d : Nat} (hn : p + 1 + 1 + 1 - p = n) (h : bq3 c p 183 b d = true) : decode c p = .ok (.invokespecial (b * 256 + d), n) := dec_at (bind_at (u1_at (bq3_at h).1) (bind_at (u2_at (bq3_at h).2) rfl)) hn
theorem q_184 {c : ByteArray} {p n b d : Nat} (hn : p + 1 + 1 + 1 - p = n) (h : bq3 c p 184 b d = true) : decode c p = .ok (.invokestatic (b * 256 + d), n) := dec_at (bind_at (u1_at (bq3_at h).1) (bind_at (u2_at (bq3_at h).2) rfl)) hn
theorem q_187 {c : ByteArray} {p n b d : Nat} (hn : p + 1 + 1 + 1 - p = n) (h : bq3 c p 187 b d = true) : decode c p = .ok (.new (b * 256 + d), n) := dec_at (bind_at (u1_at (bq3_at h).1) (bind_at (u2_at (bq3_at h).2) rfl)) hn
theorem q_188_4 {c : ByteArray} {p n : Nat} (hn : p + 1 + 1 - p = n) (h : bq2 c p 188 4 = true) : decode c p = .ok (.newarray .boolean, n) := dec_at (bind_at (u1_at (bq2_at h).1) (bind_at (u1_at (bq2_at h).2) rfl)) hn
theorem q_188_8 {c : ByteArray} {p n : Nat} (hn : p + 1 + 1 - p = n) (h : bq2 c p 188 8 = true) : decode c p = .ok (.newarray .byte, n) := dec_at (bind_at (u1_at (bq2_at h).1) (bind_at (u1_at (bq2_at h).2) rfl)) hn
theorem q_188_10 {c : ByteArray} {p n : Nat} (hn : p + 1 + 1 - p = n) (h : bq2 c p 188 10 = true) : decode c p = .ok (.newarray .int, n) := dec_at (bind_at (u1_at (bq2_at h).1) (bind_at (u1_at (bq2_at h).2) rfl)) hn
theorem q_188_11 {c : ByteArray} {p n : Nat} (hn : p + 1 + 1 - p = n) (h : bq2 c p 188 11 = true) : decode c p = .ok (.newarray .long, n) := dec_at (bind_at (u1_at (bq2_at h).1) (bind_at (u1_at (bq2_at h).2) rfl)) hn
theorem q_189 {c : ByteArray} {p n b d : Nat} (hn : p + 1 + 1 + 1 - p = n) (h : bq3 c p 189 b d = true) : decode c p = .ok (.anewarray (b * 256 + d), n) := dec_at (bind_at (u1_at (bq3_at h).1) (bind_at (u2_at (bq3_at h).2) rfl)) hn
theorem q_190 {c : ByteArray} {p n : Nat} (hn : p + 1 - p = n) (h : bq1 c p 190 = true) : decode c p = .ok (.arraylength, n) := dec_at (bind_at (u1_at (bq1_at h)) rfl) hn
theorem q_198 {c : ByteArray} {p n b d : Nat} {z : Int} (hn : p + 1 + 1 + 1 - p = n) (e : Jvm.ClassFile.Reader.signed 16 (b * 256 + d) = z) (h : bq3 c p 198 b d = true) : decode c p = .ok (.ifnull z, n) := dec_at (bind_at (u1_at (bq3_at h).1) (bind_at (s2_at (bq3_at h).2 e) rfl)) hn
theorem q_199 {c : ByteArray} {p n b d : Nat} {z : Int} (hn : p + 1 + 1 + 1 - p = n) (e : Jvm.ClassFile.Reader.signed 16 (b * 256 + d) = z) (h : bq3 c p 199 b d = true) : decode c p = .ok (.ifnonnull z, n) := dec_at (bind_at (u1_at (bq3_at h).1) (bind_at (s2_at (bq3_at h).2 e) rfl)) hn
end
