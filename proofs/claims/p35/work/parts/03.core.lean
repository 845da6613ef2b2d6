section
/-! THE ABSTRACT MACHINE. Heap: how many cells, shapes (kind, length), ints, longs, references, by place; kinds 0..10 objects of class 0..10, 11 int[], 12 byte[], 13 boolean[], 14 long[], 15.. arrays of references. -/
abbrev ax_H : Type := Nat × (Nat → Nat × Nat) × (Nat → Nat → Int32) × (Nat → Nat → Int64) × (Nat → Nat → Option Nat)
def ax_s (h : ax_H) (a : Nat) : Nat × Nat := if a < h.1 then h.2.1 a else (99, 0)
def ax_i (h : ax_H) (a k : Nat) : Int32 := h.2.2.1 a k
def ax_l (h : ax_H) (a k : Nat) : Int64 := h.2.2.2.1 a k
def ax_r (h : ax_H) (a k : Nat) : Option Nat := h.2.2.2.2 a k
def ax_u {α : Type} (f : Nat → Nat → α) (a k : Nat) (v : α) : Nat → Nat → α := fun b => if b = a then (fun j => if j = k then v else f a j) else f b
def ax_pi (h : ax_H) (a k : Nat) (v : Int32) : ax_H := (h.1, h.2.1, ax_u h.2.2.1 a k v, h.2.2.2.1, h.2.2.2.2)
def ax_pl (h : ax_H) (a k : Nat) (v : Int64) : ax_H := (h.1, h.2.1, h.2.2.1, ax_u h.2.2.2.1 a k v, h.2.2.2.2)
def ax_pr (h : ax_H) (a k : Nat) (v : Option Nat) : ax_H := (h.1, h.2.1, h.2.2.1, h.2.2.2.1, ax_u h.2.2.2.2 a k v)
def ax_nw (h : ax_H) (kd ln : Nat) : ax_H := (h.1 + 1, (fun b => if b = h.1 then (kd, ln) else h.2.1 b), (fun b => if b = h.1 then (fun _ => 0) else h.2.2.1 b), (fun b => if b = h.1 then (fun _ => 0) else h.2.2.2.1 b), (fun b => if b = h.1 then (fun _ => none) else h.2.2.2.2 b))
/-- the launch, the first new cell's address, addresses of what lies outside, the classes' numbers and slots, the array classes -/
abbrev ax_G : Type := Launch × Nat × (Nat → Nat) × va_G × (Nat → ClassId)
def ax_ad (g : ax_G) (a : Nat) : Nat := if a < 1000000 then g.2.1 + a else g.2.2.1 (a - 1000000)
def ax_v (g : ax_G) (v : Value) : Value := match v with
  | .ref a => .ref (ax_ad g a)
  | v => v
def ax_fl (g : ax_G) (h : ax_H) (ts : List Nat) (a : Nat) : List Value := ts.mapIdx fun k t => if t = 0 then .int (ax_i h a k) else if t = 1 then .long (ax_l h a k) else va_rf ((ax_r h a k).map (ax_ad g))
def ax_c (g : ax_G) (h : ax_H) (a kd : Nat) : (Nat → Int32) ⊕ (Nat → Int64) ⊕ (Nat → UInt32) ⊕ (Nat → UInt64) ⊕ (Nat → Option Nat) := if kd < 14 then .inl (ax_i h a) else if kd = 14 then .inr (.inl (ax_l h a)) else .inr (.inr (.inr (.inr (fun j => (ax_r h a j).map (ax_ad g)))))
/-- the types of a class's fields: 0 int, 1 long, 2 reference -/
def ax_ft : Nat → List Nat := fun ci => [[2, 2, 0, 0], [1, 1], [0, 0, 2, 0], [2, 0, 0], [2, 1, 1, 0, 1, 2, 2, 2, 2], [2, 2, 2, 2, 0, 0, 0, 0, 0, 0, 0, 0, 0, 0], [2, 2, 2, 2, 2, 0, 0], [2, 0, 0, 2, 2], [2, 2, 2, 2, 0, 0, 0], [2, 2, 2, 2, 2, 2, 2, 2, 2], [0, 2, 2, 2, 2, 2, 2, 2, 2, 2, 2, 0, 0, 0, 0, 0, 1, 0, 0, 0, 2, 2, 0, 0, 0, 0, 0, 0, 2, 2, 2, 2, 0, 0, 0, 0, 0, 1, 1, 0, 2, 0, 0, 2, 2, 0, 1, 0, 2, 0, 0, 0, 2, 2, 2, 2, 1, 1, 2]].getD ci []
def ax_e (g : ax_G) (h : ax_H) (a : Nat) : va_E := if (h.2.1 a).1 < 11 then .inr ((h.2.1 a).1, ax_fl g h (ax_ft (h.2.1 a).1) a) else .inl (g.2.2.2.2 (h.2.1 a).1, (h.2.1 a).2, ax_c g h a (h.2.1 a).1)
def ax_w (g : ax_G) (h : ax_H) : va_W := (List.range h.1).map fun a => (g.2.1 + a, ax_e g h a)
def ax_t (g : ax_G) : List (ClassId × FieldType) := [(g.2.2.2.2 11, .int), (g.2.2.2.2 12, .byte), (g.2.2.2.2 13, .boolean), (g.2.2.2.2 14, .long), (g.2.2.2.2 15, .object "GluedHour$Lines"), (g.2.2.2.2 16, .object "GluedHour$Odds"), (g.2.2.2.2 17, .object "GluedHour$Republic"), (g.2.2.2.2 18, .object "GluedHour$Told")]
abbrev ax_K (g : ax_G) (U : State) : Prop := va_K g.2.2.2.1 vwCl (ax_t g) U
abbrev ax_P (g : ax_G) (h : ax_H) (H : Heap) : Prop := va_P g.2.2.2.1 vwCl (ax_w g h) H ∧ H.size = g.2.1 + h.1 ∧ h.1 < 1000000
abbrev ax_A (g : ax_G) : Nat → Prop := fun q => g.2.1 ≤ q
theorem ax_w_get {g : ax_G} {h : ax_H} {a : Nat} (ha : a < h.1) : (ax_w g h)[a]? = some (g.2.1 + a, ax_e g h a) := by
  unfold ax_w
  rw [List.getElem?_map, List.getElem?_range ha]
  rfl
theorem ax_w_D {g : ax_G} {h : ax_H} : va_D (ax_A g) (ax_w g h) := by
  have key : ∀ (k : Nat) (q : Nat × va_E), (ax_w g h)[k]? = some q → q.1 = g.2.1 + k := by
    intro k q hq
    unfold ax_w at hq
    rw [List.getElem?_map] at hq
    by_cases hk : k < h.1
    · rw [List.getElem?_range hk] at hq
      cases hq
      rfl
    · rw [List.getElem?_eq_none (by simpa using Nat.not_lt.mp hk)] at hq
      cases hq
  refine ⟨fun i j p q hp hq he => ?_, fun k q hq => ?_⟩
  · rw [key i p hp, key j q hq] at he
    exact Nat.add_left_cancel he
  · show g.2.1 ≤ q.1
    rw [key k q hq]
    exact Nat.le_add_right _ _
theorem ax_s_lt {h : ax_H} {a kd : Nat} (hs : (ax_s h a).1 = kd) (hk : kd < 99) : a < h.1 ∧ (h.2.1 a).1 = kd ∧ (ax_s h a).2 = (h.2.1 a).2 := by
  unfold ax_s at hs ⊢
  by_cases ha : a < h.1
  · rw [if_pos ha] at hs ⊢
    exact ⟨ha, hs, rfl⟩
  · rw [if_neg ha] at hs
    subst hs
    exact absurd hk (by decide)
theorem ax_e_obj {g : ax_G} {h : ax_H} {a ci : Nat} (hs : (h.2.1 a).1 = ci) (hc : ci < 11) : ax_e g h a = .inr (ci, ax_fl g h (ax_ft ci) a) := by
  unfold ax_e
  rw [hs, if_pos hc]
theorem ax_e_arr {g : ax_G} {h : ax_H} {a kd : Nat} (hs : (h.2.1 a).1 = kd) (hc : ¬ kd < 11) : ax_e g h a = .inl (g.2.2.2.2 kd, (h.2.1 a).2, ax_c g h a kd) := by
  unfold ax_e
  rw [hs, if_neg hc]
theorem ax_ad_lt {g : ax_G} {a : Nat} (h : a < 1000000) : ax_ad g a = g.2.1 + a := if_pos h
theorem ax_fl_get {g : ax_G} {h : ax_H} {ts : List Nat} {a k t : Nat} (ht : ts[k]? = some t) : (ax_fl g h ts a)[k]? = some (if t = 0 then .int (ax_i h a k) else if t = 1 then .long (ax_l h a k) else va_rf ((ax_r h a k).map (ax_ad g))) := by
  unfold ax_fl
  rw [List.getElem?_mapIdx, ht]
  rfl
theorem ax_fl_len {g : ax_G} {h : ax_H} {ts : List Nat} {a : Nat} : (ax_fl g h ts a).length = ts.length := by
  unfold ax_fl
  exact List.length_mapIdx
/-- the world behind a write into one cell -/
theorem ax_w_set {g : ax_G} {h h' : ax_H} {a : Nat} {x : va_E} (hn : h'.1 = h.1) (hx : ax_e g h' a = x) (ho : ∀ b, b ≠ a → ax_e g h' b = ax_e g h b) : (ax_w g h).set a (g.2.1 + a, x) = ax_w g h' := by
  apply List.ext_getElem?
  intro i
  rw [List.getElem?_set]
  unfold ax_w
  rw [List.getElem?_map, List.getElem?_map, List.length_map, List.length_range, hn]
  by_cases hi : a = i
  · subst hi
    rw [if_pos rfl]
    by_cases hb : a < h.1
    · rw [if_pos hb, List.getElem?_range hb]
      show some (g.2.1 + a, x) = some (g.2.1 + a, ax_e g h' a)
      rw [hx]
    · rw [if_neg hb, List.getElem?_eq_none (by simpa using Nat.not_lt.mp hb)]
      rfl
  · rw [if_neg hi]
    by_cases hb : i < h.1
    · rw [List.getElem?_range hb]
      show some (g.2.1 + i, ax_e g h i) = some (g.2.1 + i, ax_e g h' i)
      rw [ho i (fun e => hi e.symm)]
    · rw [List.getElem?_eq_none (by simpa using Nat.not_lt.mp hb)]
      rfl
theorem ax_u_ne {α : Type} {f : Nat → Nat → α} {a k : Nat} {v : α} {b : Nat} (h : b ≠ a) : ax_u f a k v b = f b := if_neg h
theorem ax_u_eq {α : Type} {f : Nat → Nat → α} {a k : Nat} {v : α} : ax_u f a k v a = (fun j => if j = k then v else f a j) := if_pos rfl
theorem ax_fl_cong {g : ax_G} {h h' : ax_H} {ts : List Nat} {b : Nat} (hi : h'.2.2.1 b = h.2.2.1 b) (hl : h'.2.2.2.1 b = h.2.2.2.1 b) (hr : h'.2.2.2.2 b = h.2.2.2.2 b) : ax_fl g h' ts b = ax_fl g h ts b := by
  unfold ax_fl ax_i ax_l ax_r
  rw [hi, hl, hr]
theorem ax_e_cong {g : ax_G} {h h' : ax_H} {b : Nat} (hs : h'.2.1 b = h.2.1 b) (hi : h'.2.2.1 b = h.2.2.1 b) (hl : h'.2.2.2.1 b = h.2.2.2.1 b) (hr : h'.2.2.2.2 b = h.2.2.2.2 b) : ax_e g h' b = ax_e g h b := by
  unfold ax_e ax_c
  rw [hs, ax_fl_cong hi hl hr]
  unfold ax_i ax_l ax_r
  rw [hi, hl, hr]
theorem ax_fl_set {g : ax_G} {h h' : ax_H} {ts : List Nat} {a k t : Nat} {v : Value} (ht : ts[k]? = some t) (hv : (if t = 0 then Value.int (ax_i h' a k) else if t = 1 then .long (ax_l h' a k) else va_rf ((ax_r h' a k).map (ax_ad g))) = v) (ho : ∀ j u, j ≠ k → ts[j]? = some u → (if u = 0 then Value.int (ax_i h' a j) else if u = 1 then .long (ax_l h' a j) else va_rf ((ax_r h' a j).map (ax_ad g))) = (if u = 0 then Value.int (ax_i h a j) else if u = 1 then .long (ax_l h a j) else va_rf ((ax_r h a j).map (ax_ad g)))) : ax_fl g h' ts a = (ax_fl g h ts a).set k v := by
  apply List.ext_getElem?
  intro i
  rw [List.getElem?_set]
  by_cases hi : k = i
  · subst hi
    rw [if_pos rfl, if_pos (by rw [ax_fl_len]; exact (List.getElem?_eq_some_iff.mp ht).1), ax_fl_get ht, hv]
  · rw [if_neg hi]
    cases hu : ts[i]? with
    | none =>
      have e : ∀ h0 : ax_H, (ax_fl g h0 ts a)[i]? = none := fun h0 => by
        rw [List.getElem?_eq_none_iff, ax_fl_len]
        exact List.getElem?_eq_none_iff.mp hu
      rw [e, e]
    | some u => rw [ax_fl_get hu, ax_fl_get hu, ho i u (fun e => hi e.symm) hu]
end
