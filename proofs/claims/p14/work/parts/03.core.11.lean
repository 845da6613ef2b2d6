section
section
/-! THE ABSTRACT MACHINE. Heap: how many cells, shapes (kind, length), ints, longs, references, by place; kinds 0..10 objects of class 0..10, 11 int[], 12 byte[], 13 boolean[], 14 long[], 15.. arrays of references. -/
abbrev ax_H : Type := Nat × (Nat → Nat × Nat) × (Nat → Nat → Int32) × (Nat → Nat → Int64) × (Nat → Nat → Option Nat)
def ax_s (h : ax_H) (a : Nat) : Nat × Nat := if a < h.1 then h.2.1 a else (99, 0)
def ax_i (h : ax_H) (a k : Nat) : Int32 := h.2.2.1 a k
def ax_l (h : ax_H) (a k : Nat) : Int64 := h.2.2.2.1 a k
def ax_r (h : ax_H) (a k : Nat) : Option Nat := h.2.2.2.2 a k
def ax_u {α : Type} (f : Nat → Nat → α) (a k : Nat) (v : α) : Nat → Nat → α := fun b => if b = a then (fun j => if j = k then v else f a j) else f b
def ax_pi (h : ax_H) (a k : Nat) (v : Int32) : ax_H := (h.1, h.2.1, ax_u h.2.2.1 a k v, h.2.2.2.1, h.2.2.2.2)
def ax_pl (h : ax_H) (a k : Nat) (v : Int64) : ax_H := (h.1, h.2.1, h.2.2.1, ax_u h.2.2.2.1 a k v, h.2.2.2.2)
def ax_pr (h : ax_H) (a k : Nat) (v : Option Nat) : ax_H := (h.1, h.2.1, h.2.2.1, h.2.2.2.1, ax_u h.2.2.2.2 a k v)
def ax_nw (h : ax_H) (kd ln : Nat) : ax_H := (h.1 + 1, (fun b => if b = h.1 then (kd, ln) else h.2.1 b), (fun b => if b = h.1 then (fun _ => 0) else h.2.2.1 b), (fun b => if b = h.1 then (fun _ => 0) else h.2.2.2.1 b), (fun b => if b = h.1 then (fun _ => none) else h.2.2.2.2 b))
/-- the launch, the first new cell's address, addresses of what lies outside, the classes' numbers and slots, the array classes -/
abbrev ax_G : Type := Launch × Nat × (Nat → Nat) × va_G × (Nat → ClassId)
def ax_ad (g : ax_G) (a : Nat) : Nat := if a < 1000000 then g.2.1 + a else g.2.2.1 (a - 1000000)
def ax_v (g : ax_G) (v : Value) : Value := match v with
  | .ref a => .ref (ax_ad g a)
  | v => v
def ax_fl (g : ax_G) (h : ax_H) (ts : List Nat) (a : Nat) : List Value := ts.mapIdx fun k t => if t = 0 then .int (ax_i h a k) else if t = 1 then .long (ax_l h a k) else va_rf ((ax_r h a k).map (ax_ad g))
def ax_c (g : ax_G) (h : ax_H) (a kd : Nat) : (Nat → Int32) ⊕ (Nat → Int64) ⊕ (Nat → UInt32) ⊕ (Nat → UInt64) ⊕ (Nat → Option Nat) := if kd < 14 then .inl (ax_i h a) else if kd = 14 then .inr (.inl (ax_l h a)) else .inr (.inr (.inr (.inr (fun j => (ax_r h a j).map (ax_ad g)))))
/-- the types of a class's fields: 0 int, 1 long, 2 reference -/
def ax_ft : Nat → List Nat := fun ci => [[2, 2, 0, 0], [1, 1], [0, 0, 2, 0], [2, 0, 0], [2, 1, 1, 0, 1, 2, 2, 2, 2], [2, 2, 2, 2, 0, 0, 0, 0, 0, 0, 0, 0, 0, 0], [2, 2, 2, 2, 2, 0, 0], [2, 0, 0, 2, 2], [2, 2, 2, 2, 0, 0, 0], [2, 2, 2, 2, 2, 2, 2, 2, 2], [0, 2, 2, 2, 2, 2, 2, 2, 2, 2, 2, 0, 0, 0, 0, 0, 1, 0, 0, 0, 2, 2, 0, 0, 0, 0, 0, 0, 2, 2, 2, 2, 0, 0, 0, 0, 0, 1, 1, 0, 2, 0, 0, 2, 2, 0, 1, 0, 2, 0, 0, 0, 2, 2, 2, 2, 1, 1, 2]].getD ci []
def ax_e (g : ax_G) (h : ax_H) (a : Nat) : va_E := if (h.2.1 a).1 < 11 then .inr ((h.2.1 a).1, ax_fl g h (ax_ft (h.2.1 a).1) a) else .inl (g.2.2.2.2 (h.2.1 a).1, (h.2.1 a).2, ax_c g h a (h.2.1 a).1)
def ax_w (g : ax_G) (h : ax_H) : va_W := (List.range h.1).map fun a => (g.2.1 + a, ax_e g h a)
def ax_t (g : ax_G) : List (ClassId × FieldType) := [(g.2.2.2.2 11, .int), (g.2.2.2.2 12, .byte), (g.2.2.2.2 13, .boolean), (g.2.2.2.2 14, .long), (g.2.2.2.2 15, .object "GluedHour$Lines"), (g.2.2.2.2 16, .object "GluedHour$Odds"), (g.2.2.2.2 17, .object "GluedHour$Republic"), (g.2.2.2.2 18, .object "GluedHour$Told")]
abbrev ax_K (g : ax_G) (U : State) : Prop := va_K g.2.2.2.1 vwCl (ax_t g) U
abbrev ax_P (g : ax_G) (h : ax_H) (H : Heap) : Prop := va_P g.2.2.2.1 vwCl (ax_w g h) H ∧ H.size = g.2.1 + h.1 ∧ h.1 < 1000000
abbrev ax_A (g : ax_G) : Nat → Prop := fun q => g.2.1 ≤ q
theorem ax_w_get {g : ax_G} {h : ax_H} {a : Nat} (ha : a < h.1) : (ax_w g h)[a]? = some (g.2.1 + a, ax_e g h a) := by
  unfold ax_w
  rw [List.getElem?_map, List.getElem?_range ha]
  rfl
theorem ax_w_D {g : ax_G} {h : ax_H} : va_D (ax_A g) (ax_w g h) := by
  have key : ∀ (k : Nat) (q : Nat × va_E), (ax_w g h)[k]? = some q → q.1 = g.2.1 + k := by
    intro k q hq
    unfold ax_w at hq
    rw [List.getElem?_map] at hq
    by_cases hk : k < h.1
    · rw [List.getElem?_range hk] at hq
      cases hq
      rfl
    · rw [List.getElem?_eq_none (by simpa using Nat.not_lt.mp hk)] at hq
      cases hq
  refine ⟨fun i j p q hp hq he => ?_, fun k q hq => ?_⟩
  · rw [key i p hp, key j q hq] at he
    exact Nat.add_left_cancel he
  · show g.2.1 ≤ q.1
    rw [key k q hq]
    exact Nat.le_add_right _ _
theorem ax_s_lt {h : ax_H} {a kd : Nat} (hs : (ax_s h a).1 = kd) (hk : kd < 99) : a < h.1 ∧ (h.2.1 a).1 = kd ∧ (ax_s h a).2 = (h.2.1 a).2 := by
  unfold ax_s at hs ⊢
  by_cases ha : a < h.1
  · rw [if_pos ha] at hs ⊢
    exact ⟨ha, hs, rfl⟩
  · rw [if_neg ha] at hs
    subst hs
    exact absurd hk (by decide)
theorem ax_e_obj {g : ax_G} {h : ax_H} {a ci : Nat} (hs : (h.2.1 a).1 = ci) (hc : ci < 11) : ax_e g h a = .inr (ci, ax_fl g h (ax_ft ci) a) := by
  unfold ax_e
  rw [hs, if_pos hc]
theorem ax_e_arr {g : ax_G} {h : ax_H} {a kd : Nat} (hs : (h.2.1 a).1 = kd) (hc : ¬ kd < 11) : ax_e g h a = .inl (g.2.2.2.2 kd, (h.2.1 a).2, ax_c g h a kd) := by
  unfold ax_e
  rw [hs, if_neg hc]
theorem ax_ad_lt {g : ax_G} {a : Nat} (h : a < 1000000) : ax_ad g a = g.2.1 + a := if_pos h
theorem ax_fl_get {g : ax_G} {h : ax_H} {ts : List Nat} {a k t : Nat} (ht : ts[k]? = some t) : (ax_fl g h ts a)[k]? = some (if t = 0 then .int (ax_i h a k) else if t = 1 then .long (ax_l h a k) else va_rf ((ax_r h a k).map (ax_ad g))) := by
  unfold ax_fl
  rw [List.getElem?_mapIdx, ht]
  rfl
theorem ax_fl_len {g : ax_G} {h : ax_H} {ts : List Nat} {a : Nat} : (ax_fl g h ts a).length = ts.length := by
  unfold ax_fl
  exact List.length_mapIdx
/-- the world behind a write into one cell -/
theorem ax_w_set {g : ax_G} {h h' : ax_H} {a : Nat} {x : va_E} (hn : h'.1 = h.1) (hx : ax_e g h' a = x) (ho : ∀ b, b ≠ a → ax_e g h' b = ax_e g h b) : (ax_w g h).set a (g.2.1 + a, x) = ax_w g h' := by
  apply List.ext_getElem?
  intro i
  rw [List.getElem?_set]
  unfold ax_w
  rw [List.getElem?_map, List.getElem?_map, List.length_map, List.length_range, hn]
  by_cases hi : a = i
  · subst hi
    rw [if_pos rfl]
    by_cases hb : a < h.1
    · rw [if_pos hb, List.getElem?_range hb]
      show some (g.2.1 + a, x) = some (g.2.1 + a, ax_e g h' a)
      rw [hx]
    · rw [if_neg hb, List.getElem?_eq_none (by simpa using Nat.not_lt.mp hb)]
      rfl
  · rw [if_neg hi]
    by_cases hb : i < h.1
    · rw [List.getElem?_range hb]
      show some (g.2.1 + i, ax_e g h i) = some (g.2.1 + i, ax_e g h' i)
      rw [ho i (fun e => hi e.symm)]
    · rw [List.getElem?_eq_none (by simpa using Nat.not_lt.mp hb)]
      rfl
theorem ax_u_ne {α : Type} {f : Nat → Nat → α} {a k : Nat} {v : α} {b : Nat} (h : b ≠ a) : ax_u f a k v b = f b := if_neg h
theorem ax_u_eq {α : Type} {f : Nat → Nat → α} {a k : Nat} {v : α} : ax_u f a k v a = (fun j => if j = k then v else f a j) := if_pos rfl
theorem ax_fl_cong {g : ax_G} {h h' : ax_H} {ts : List Nat} {b : Nat} (hi : h'.2.2.1 b = h.2.2.1 b) (hl : h'.2.2.2.1 b = h.2.2.2.1 b) (hr : h'.2.2.2.2 b = h.2.2.2.2 b) : ax_fl g h' ts b = ax_fl g h ts b := by
  unfold ax_fl ax_i ax_l ax_r
  rw [hi, hl, hr]
theorem ax_e_cong {g : ax_G} {h h' : ax_H} {b : Nat} (hs : h'.2.1 b = h.2.1 b) (hi : h'.2.2.1 b = h.2.2.1 b) (hl : h'.2.2.2.1 b = h.2.2.2.1 b) (hr : h'.2.2.2.2 b = h.2.2.2.2 b) : ax_e g h' b = ax_e g h b := by
  unfold ax_e ax_c
  rw [hs, ax_fl_cong hi hl hr]
  unfold ax_i ax_l ax_r
  rw [hi, hl, hr]
theorem ax_fl_set {g : ax_G} {h h' : ax_H} {ts : List Nat} {a k t : Nat} {v : Value} (ht : ts[k]? = some t) (hv : (if t = 0 then Value.int (ax_i h' a k) else if t = 1 then .long (ax_l h' a k) else va_rf ((ax_r h' a k).map (ax_ad g))) = v) (ho : ∀ j u, j ≠ k → ts[j]? = some u → (if u = 0 then Value.int (ax_i h' a j) else if u = 1 then .long (ax_l h' a j) else va_rf ((ax_r h' a j).map (ax_ad g))) = (if u = 0 then Value.int (ax_i h a j) else if u = 1 then .long (ax_l h a j) else va_rf ((ax_r h a j).map (ax_ad g)))) : ax_fl g h' ts a = (ax_fl g h ts a).set k v := by
  apply List.ext_getElem?
  intro i
  rw [List.getElem?_set]
  by_cases hi : k = i
  · subst hi
    rw [if_pos rfl, if_pos (by rw [ax_fl_len]; exact (List.getElem?_eq_some_iff.mp ht).1), ax_fl_get ht, hv]
  · rw [if_neg hi]
    cases hu : ts[i]? with
    | none =>
      have e : ∀ h0 : ax_H, (ax_fl g h0 ts a)[i]? = none := fun h0 => by
        rw [List.getElem?_eq_none_iff, ax_fl_len]
        exact List.getElem?_eq_none_iff.mp hu
      rw [e, e]
    | some u => rw [ax_fl_get hu, ax_fl_get hu, ho i u (fun e => hi e.symm) hu]
end
end

section
section
/-! locals by place -/
def ax_as : Nat → List (Option Value) → List (Nat × Value)
  | _, [] => []
  | i, none :: r => ax_as (i + 1) r
  | i, some v :: r => (i, v) :: ax_as (i + 1) r
def ax_g : List (Option Value) → Nat → Option Value
  | [], _ => none
  | x :: _, 0 => x
  | _ :: r, n + 1 => ax_g r n
def ax_k2 (x : Option Value) : Option Value := match x with
  | some (.long _) => none
  | some (.double _) => none
  | x => x
def ax_st : List (Option Value) → Nat → Value → List (Option Value)
  | [], _, _ => []
  | _ :: r, 0, v => some v :: r
  | x :: r, 1, v => ax_k2 x :: ax_st r 0 v
  | x :: r, n + 2, v => x :: ax_st r (n + 1) v
def ax_st2 : List (Option Value) → Nat → Value → List (Option Value)
  | [], _, _ => []
  | [_], 0, _ => [none]
  | _ :: _ :: r, 0, v => some v :: none :: r
  | x :: r, 1, v => ax_k2 x :: ax_st2 r 0 v
  | x :: r, n + 2, v => x :: ax_st2 r (n + 1) v
theorem ax_as_mem : ∀ (L : List (Option Value)) (i j : Nat) (v : Value), (j, v) ∈ ax_as i L ↔ i ≤ j ∧ L[j - i]? = some (some v) := by
  intro L
  induction L with
  | nil => intro i j v; simp [ax_as]
  | cons x r ih =>
    intro i j v
    have key : ∀ y : Option Value, (i + 1 ≤ j ∧ r[j - (i + 1)]? = some (some v)) ↔ (i + 1 ≤ j ∧ (y :: r)[j - i]? = some (some v)) := by
      intro y
      constructor
      · rintro ⟨h1, h2⟩
        refine ⟨h1, ?_⟩
        have : j - i = (j - (i + 1)) + 1 := by omega
        rw [this, List.getElem?_cons_succ]
        exact h2
      · rintro ⟨h1, h2⟩
        refine ⟨h1, ?_⟩
        have : j - i = (j - (i + 1)) + 1 := by omega
        rw [this, List.getElem?_cons_succ] at h2
        exact h2
    cases x with
    | none =>
      rw [ax_as, ih, key none]
      constructor
      · rintro ⟨h1, h2⟩
        exact ⟨by omega, h2⟩
      · rintro ⟨h1, h2⟩
        rcases Nat.eq_or_lt_of_le h1 with e | e
        · subst e
          simp at h2
        · exact ⟨e, h2⟩
    | some w =>
      rw [ax_as, List.mem_cons, ih, key (some w)]
      constructor
      · rintro (h | ⟨h1, h2⟩)
        · cases h
          simp
        · exact ⟨by omega, h2⟩
      · rintro ⟨h1, h2⟩
        rcases Nat.eq_or_lt_of_le h1 with e | e
        · subst e
          simp at h2
          exact Or.inl (by rw [h2])
        · exact Or.inr ⟨e, h2⟩
theorem ax_g_get : ∀ (L : List (Option Value)) (i : Nat) (v : Value), ax_g L i = some v → L[i]? = some (some v) := by
  intro L
  induction L with
  | nil => intro i v h; simp [ax_g] at h
  | cons x r ih =>
    intro i v h
    cases i with
    | zero => simp [ax_g] at h; simp [h]
    | succ n => simp [ax_g] at h; simpa using ih n v h
theorem ax_k2_cat {x : Option Value} {w : Value} (h : ax_k2 x = some w) : x = some w ∧ ¬ w.category = 2 := by
  unfold ax_k2 at h
  split at h
  · cases h
  · cases h
  · rename_i h1 h2
    subst h
    refine ⟨rfl, ?_⟩
    cases w <;> simp [Value.category] <;> first | exact absurd rfl (h1 _) | exact absurd rfl (h2 _)
theorem ax_st_get : ∀ (L : List (Option Value)) (i : Nat) (v : Value) (j : Nat) (w : Value), (ax_st L i v)[j]? = some (some w) → (j = i ∧ w = v) ∨ (j ≠ i ∧ ¬ (j + 1 = i ∧ w.category = 2) ∧ L[j]? = some (some w)) := by
  intro L
  induction L with
  | nil => intro i v j w h; simp [ax_st] at h
  | cons x r ih =>
    intro i v j w h
    match i with
    | 0 =>
      cases j with
      | zero => simp [ax_st] at h; exact Or.inl ⟨rfl, h.symm⟩
      | succ j => simp [ax_st] at h; exact Or.inr ⟨by omega, by omega, by simpa using h⟩
    | 1 =>
      cases j with
      | zero =>
        simp [ax_st] at h
        obtain ⟨h1, h2⟩ := ax_k2_cat h
        exact Or.inr ⟨by omega, fun q => h2 q.2, by simp [h1]⟩
      | succ j =>
        simp [ax_st] at h
        rcases ih 0 v j w h with ⟨h1, h2⟩ | ⟨h1, h2, h3⟩
        · exact Or.inl ⟨by omega, h2⟩
        · exact Or.inr ⟨by omega, by omega, by simpa using h3⟩
    | n + 2 =>
      cases j with
      | zero => simp [ax_st] at h; exact Or.inr ⟨by omega, by omega, by simp [h]⟩
      | succ j =>
        simp [ax_st] at h
        rcases ih (n + 1) v j w h with ⟨h1, h2⟩ | ⟨h1, h2, h3⟩
        · exact Or.inl ⟨by omega, h2⟩
        · exact Or.inr ⟨by omega, fun q => h2 ⟨by omega, q.2⟩, by simpa using h3⟩
theorem ax_st2_get : ∀ (L : List (Option Value)) (i : Nat) (v : Value) (j : Nat) (w : Value), (ax_st2 L i v)[j]? = some (some w) → (j = i ∧ w = v) ∨ (j ≠ i ∧ j ≠ i + 1 ∧ ¬ (j + 1 = i ∧ w.category = 2) ∧ L[j]? = some (some w)) := by
  intro L
  induction L with
  | nil => intro i v j w h; simp [ax_st2] at h
  | cons x r ih =>
    intro i v j w h
    match i with
    | 0 =>
      cases r with
      | nil =>
        cases j with
        | zero => simp [ax_st2] at h
        | succ j => simp [ax_st2] at h
      | cons y r =>
        match j with
        | 0 => simp [ax_st2] at h; exact Or.inl ⟨rfl, h.symm⟩
        | 1 => simp [ax_st2] at h
        | j + 2 => simp [ax_st2] at h; exact Or.inr ⟨by omega, by omega, by omega, by simpa using h⟩
    | 1 =>
      cases j with
      | zero =>
        simp [ax_st2] at h
        obtain ⟨h1, h2⟩ := ax_k2_cat h
        exact Or.inr ⟨by omega, by omega, fun q => h2 q.2, by simp [h1]⟩
      | succ j =>
        simp [ax_st2] at h
        rcases ih 0 v j w h with ⟨h1, h2⟩ | ⟨h1, h2, h3, h4⟩
        · exact Or.inl ⟨by omega, h2⟩
        · exact Or.inr ⟨by omega, by omega, by omega, by simpa using h4⟩
    | n + 2 =>
      cases j with
      | zero => simp [ax_st2] at h; exact Or.inr ⟨by omega, by omega, by omega, by simp [h]⟩
      | succ j =>
        simp [ax_st2] at h
        rcases ih (n + 1) v j w h with ⟨h1, h2⟩ | ⟨h1, h2, h3, h4⟩
        · exact Or.inl ⟨by omega, h2⟩
        · exact Or.inr ⟨by omega, by omega, fun q => h3 ⟨by omega, q.2⟩, by simpa using h4⟩
/-- the machine's locals hold L's -/
def ax_lr (g : ax_G) (ls : Array Slot) (nL : Nat) (L : List (Option Value)) : Prop := lv_has ls nL (ax_as 0 (L.map (Option.map (ax_v g))))
theorem ax_v_cat (g : ax_G) (v : Value) : (ax_v g v).category = v.category := by cases v <;> rfl
theorem ax_lr_get {g : ax_G} {ls : Array Slot} {nL : Nat} {L : List (Option Value)} {i : Nat} {v : Value} (h : ax_lr g ls nL L) (hv : ax_g L i = some v) : ls[i]? = some (.val (ax_v g v)) := by
  refine h.2.2 (i, ax_v g v) ((ax_as_mem _ _ _ _).mpr ⟨Nat.zero_le _, ?_⟩)
  rw [Nat.sub_zero, List.getElem?_map, ax_g_get _ _ _ hv]
  rfl
theorem ax_map_get {g : ax_G} {L : List (Option Value)} {j : Nat} {w : Value} (h : (L.map (Option.map (ax_v g)))[j]? = some (some w)) : ∃ u, L[j]? = some (some u) ∧ w = ax_v g u := by
  rw [List.getElem?_map] at h
  cases hL : L[j]? with
  | none => rw [hL] at h; cases h
  | some x =>
    rw [hL] at h
    cases x with
    | none => cases h
    | some u => cases h; exact ⟨u, rfl, rfl⟩
theorem ax_lr_st {g : ax_G} {ls' : Array Slot} {nL : Nat} {L : List (Option Value)} {i : Nat} {v : Value} (h : lv_has ls' nL ((i, ax_v g v) :: (ax_as 0 (L.map (Option.map (ax_v g)))).filter (fun q => !(q.1 == i) && !(q.1 + 1 == i && q.2.category == 2)))) : ax_lr g ls' nL (ax_st L i v) := by
  refine ⟨h.1, h.2.1, fun q hq => h.2.2 q ?_⟩
  obtain ⟨j, w⟩ := q
  obtain ⟨-, h1⟩ := (ax_as_mem _ _ _ _).mp hq
  rw [Nat.sub_zero] at h1
  obtain ⟨u, h2, rfl⟩ := ax_map_get h1
  rcases ax_st_get _ _ _ _ _ h2 with ⟨rfl, rfl⟩ | ⟨h3, h4, h5⟩
  · exact List.mem_cons_self
  · refine List.mem_cons_of_mem _ (List.mem_filter.mpr ⟨(ax_as_mem _ _ _ _).mpr ⟨Nat.zero_le _, ?_⟩, ?_⟩)
    · rw [Nat.sub_zero, List.getElem?_map, h5]; rfl
    · have e1 : (j == i) = false := by simpa using h3
      show (!(j == i) && !(j + 1 == i && (ax_v g u).category == 2)) = true
      rw [e1, ax_v_cat]
      by_cases e2 : j + 1 = i
      · have : ¬ u.category = 2 := fun q => h4 ⟨e2, q⟩
        simp [this]
      · simp [e2]
theorem ax_lr_st2 {g : ax_G} {ls' : Array Slot} {nL : Nat} {L : List (Option Value)} {i : Nat} {v : Value} (h : lv_has ls' nL ((i, ax_v g v) :: (ax_as 0 (L.map (Option.map (ax_v g)))).filter (fun q => !(q.1 == i) && (!(q.1 == i + 1) && !(q.1 + 1 == i && q.2.category == 2))))) : ax_lr g ls' nL (ax_st2 L i v) := by
  refine ⟨h.1, h.2.1, fun q hq => h.2.2 q ?_⟩
  obtain ⟨j, w⟩ := q
  obtain ⟨-, h1⟩ := (ax_as_mem _ _ _ _).mp hq
  rw [Nat.sub_zero] at h1
  obtain ⟨u, h2, rfl⟩ := ax_map_get h1
  rcases ax_st2_get _ _ _ _ _ h2 with ⟨rfl, rfl⟩ | ⟨h3, h3', h4, h5⟩
  · exact List.mem_cons_self
  · refine List.mem_cons_of_mem _ (List.mem_filter.mpr ⟨(ax_as_mem _ _ _ _).mpr ⟨Nat.zero_le _, ?_⟩, ?_⟩)
    · rw [Nat.sub_zero, List.getElem?_map, h5]; rfl
    · have e1 : (j == i) = false := by simpa using h3
      have e3 : (j == i + 1) = false := by simpa using h3'
      show (!(j == i) && (!(j == i + 1) && !(j + 1 == i && (ax_v g u).category == 2))) = true
      rw [e1, e3, ax_v_cat]
      by_cases e2 : j + 1 = i
      · have : ¬ u.category = 2 := fun q => h4 ⟨e2, q⟩
        simp [this]
      · simp [e2]
/-- the locals at a method's entry -/
def ax_en : List Value → Nat → List (Option Value)
  | [], n => List.replicate n none
  | v :: r, n => if v.category = 2 then some v :: none :: ax_en r (n - 2) else some v :: ax_en r (n - 1)
theorem ax_en_mem : ∀ (vs : List Value) (n i j : Nat) (w : Value), (j, w) ∈ ax_as i (ax_en vs n) → (j, w) ∈ lv_args i vs := by
  intro vs
  induction vs with
  | nil =>
    intro n i j w h
    exfalso
    obtain ⟨-, h1⟩ := (ax_as_mem _ _ _ _).mp h
    simp only [ax_en, List.getElem?_replicate] at h1
    split at h1 <;> cases h1
  | cons v r ih =>
    intro n i j w h
    unfold ax_en at h
    unfold lv_args
    by_cases hc : v.category = 2
    · rw [if_pos hc] at h
      simp only [ax_as] at h
      rcases List.mem_cons.mp h with h | h
      · cases h; first | exact List.mem_cons_self | (simp)
      · have := ih (n - 2) (i + 1 + 1) j w h
        first | (rw [if_pos hc]; exact List.mem_cons_of_mem _ this) | (simp [hc]; exact Or.inr this) | (refine List.mem_cons_of_mem _ ?_; simpa [hc] using this)
    · rw [if_neg hc] at h
      simp only [ax_as] at h
      rcases List.mem_cons.mp h with h | h
      · cases h; first | exact List.mem_cons_self | (simp)
      · have := ih (n - 1) (i + 1) j w h
        have hc1 : v.category = 1 := by cases v <;> first | rfl | exact absurd rfl hc
        first | (rw [if_neg hc]; exact List.mem_cons_of_mem _ this) | (refine List.mem_cons_of_mem _ ?_; simpa [hc1] using this)
end
end

section
section
/-! a state: place in the code, locals, stack, heap, new cells and slots so far; an operation: what must hold at a state so that K holds at what comes -/
abbrev ax_S : Type := Nat × List (Option Value) × List Value × ax_H × Nat × Nat
abbrev ax_O : Type := (Option Value → ax_H → Prop) → ax_S → (ax_S → Prop) → Prop
def ax_rm (d mc ms : Nat) : Room := { frames := d, cells := mc, slots := ms, locals := 41 * d + 32 }
def ax_sa : List (String × String × List Int32) := [("GluedHour", "LINES_MOST", [0, 14, 6, 8, 6]), ("GluedHour", "LINE_WIDTH", [0, 1, 3, 2, 3]), ("GluedHour$Reader", "VERB_SORT", [0, 0, 0, 0, 0, 0, 1, 2, 3, 4, 4]), ("GluedHour$Reader", "NUMBERS", [1, 2, 2, 1, 3, 3, 1, 3, 2, 3, 3]), ("GluedHour$Reader", "LOWEST", [2, 0, 0, 0, 0, 0, 0, 0, 0, 0, 0, 0, 0, 0, 0, 0, 0, 0, 0, 0, 0, 0, 0, 0, 0, 1, 0, 1, 0, 0, 1, 0, 0]), ("GluedHour$Reader", "HIGHEST", [12, 0, 0, 5, 99, 0, 5, 99, 0, 999, 0, 0, 5, 11, 5, 5, 11, 9, 11, 0, 0, 5, 11, 11, 11, 9, 0, 3, 5, 999, 3, 5, 999])]
/-- the String constants of the reader: entry of its pool, text -/
def ax_ss : List (Nat × String) := [(125, "twice"), (131, "once"), (133, "undone"), (173, "hours"), (174, "gain"), (176, "loss"), (178, "person"), (180, "does"), (182, "lot"), (184, "stuck"), (186, "errand"), (188, "train"), (190, "has"), (192, "owes")]
def ax_sl : List Nat := [5, 4, 6, 5, 4, 4, 6, 4, 3, 5, 6, 5, 3, 4]
def ax_sb : List (List Int32) := [[116, 119, 105, 99, 101], [111, 110, 99, 101], [117, 110, 100, 111, 110, 101], [104, 111, 117, 114, 115], [103, 97, 105, 110], [108, 111, 115, 115], [112, 101, 114, 115, 111, 110], [100, 111, 101, 115], [108, 111, 116], [115, 116, 117, 99, 107], [101, 114, 114, 97, 110, 100], [116, 114, 97, 105, 110], [104, 97, 115], [111, 119, 101, 115]]
def ax_nf : List (String × Nat × String × String × String × String) := [("GluedHour$Lines", 15, "GluedHour", "LINES_MOST", "[I", "GluedHour"), ("GluedHour$Lines", 22, "GluedHour", "LINE_WIDTH", "[I", "GluedHour")]
def ax_nm : List (String × Nat × MethodName × String) := [("GluedHour", 35, ⟨"GluedHour$Course", "<init>", "()V"⟩, "GluedHour"), ("GluedHour", 42, ⟨"GluedHour$Odds", "<init>", "()V"⟩, "GluedHour"), ("GluedHour", 52, ⟨"GluedHour$Planner", "<init>", "()V"⟩, "GluedHour"), ("GluedHour", 66, ⟨"GluedHour$Fraction", "<init>", "()V"⟩, "GluedHour"), ("GluedHour$Planner", 41, ⟨"GluedHour$Odds", "<init>", "()V"⟩, "GluedHour"), ("GluedHour$Search", 31, ⟨"GluedHour$Odds", "<init>", "()V"⟩, "GluedHour")]
def ax_ao : List String := ["GluedHour$Lines", "GluedHour$Odds", "GluedHour$Republic", "GluedHour$Told"]
/-- the static arrays and String constants, as they stand below the new cells -/
def ax_Z (g : ax_G) (s : State) (H : Heap) : Prop := (∀ (j : Nat) (q : String × String × List Int32), ax_sa[j]? = some q → va_Z q.1 q.2.1 "[I" (.ref (ax_ad g (1000000 + j))) (ax_A g) s H ∧ va_T .int (ax_ad g (1000000 + j)) q.2.2.length (fun k => .int (q.2.2.getD k 0)) (ax_A g) s H) ∧ vk_S 14 ax_sl ax_sb (fun i => ax_ad g (1000100 + i)) (fun i => ax_ad g (1000200 + i)) (ax_A g) s H ∧ (∀ (i : Nat) (q : Nat × String), ax_ss[i]? = some q → vk_R "GluedHour$Reader" q.1 q.2 (ax_ad g (1000100 + i)) s) ∧ va_Z "java/lang/String" "COMPACT_STRINGS" "Z" (.int 1) (ax_A g) s H ∧ va_X (ax_ad g 1000300) (g.2.2.1 400) (fun j => Int32.ofNat (g.2.2.1 (1000 + j))) s H ∧ (¬ ax_A g (ax_ad g 1000300)) ∧ (∀ q ∈ ax_nf, va_Nw (.fieldLinkNest q.1 q.2.1 q.2.2.1 q.2.2.2.1 q.2.2.2.2.1 q.2.2.2.2.2) s) ∧ (∀ q ∈ ax_nm, va_Nw (.methodLinkNest q.1 q.2.1 q.2.2.1 q.2.2.2) s) ∧ (∀ C ∈ ax_ao, va_AO C s) ∧ (va_Z "jdk/internal/util/Preconditions" "SIOOBE_FORMATTER" "Ljava/util/function/BiFunction;" .null (ax_A g) s H ∨ va_Z "jdk/internal/util/Preconditions" "SIOOBE_FORMATTER" "Ljava/util/function/BiFunction;" (.ref (ax_ad g 1000301)) (ax_A g) s H)
theorem ax_Z_moved {g : ax_G} {s U : State} {H H1 : Heap} (h : ax_Z g s H) (hvm : s.vm.Alike U.vm) (hR : U.vm = s.vm ∨ s.WarmedH U.vm) (hq : ∀ a : Nat, a < H.size → ¬ ax_A g a → H1[a]? = H[a]?) : ax_Z g U H1 := ⟨fun j q hj => ⟨((h.1 j q hj).1.kept hq).moved hvm, ((h.1 j q hj).2.kept hq).moved hvm⟩, (h.2.1.kept hq).moved hvm, fun i q hi => hR.elim (fun z => vk_R.same z (h.2.2.1 i q hi)) (fun z => vk_R.warm z (h.2.2.1 i q hi)), (h.2.2.2.1.kept hq).moved hvm, (h.2.2.2.2.1.kept (hq _ (by obtain ⟨_, h1, _⟩ := h.2.2.2.2.1; exact (Array.getElem?_eq_some_iff.mp h1).1) h.2.2.2.2.2.1)).moved hvm, h.2.2.2.2.2.1, fun q hq => hR.elim (fun z => va_Nw.same rfl z.symm (h.2.2.2.2.2.2.1 q hq)) (fun z => va_Nw.warmF z (h.2.2.2.2.2.2.1 q hq)), fun q hq => hR.elim (fun z => va_Nw.same rfl z.symm (h.2.2.2.2.2.2.2.1 q hq)) (fun z => va_Nw.warmM z (h.2.2.2.2.2.2.2.1 q hq)), fun C hC => (h.2.2.2.2.2.2.2.2.1 C hC).moved hvm, h.2.2.2.2.2.2.2.2.2.imp (fun z => (z.kept hq).moved hvm) (fun z => (z.kept hq).moved hvm)⟩
def ax_V (g : ax_G) (cc : ByteArray) (nL : Nat) (ret : Option FieldType) (own nm : String) (p : Program) (s : State) (m : MethodId) (args : Array Value) (meth : Method) (c : Code) : Prop := p.tables.exec = Jvm.exec ∧ c.code = cc ∧ meth.sig.returnType = ret ∧ meth.locks = false ∧ c.maxLocals = nL ∧ s.vm.findClass own = some m.cls ∧ meth.name = nm ∧ (∀ w ∈ lw_gd, w.before args s = true) ∧ ax_K g s ∧ g.2.1 ≤ s.heap.size ∧ ax_Z g s s.heap
def ax_Q (g : ax_G) (Ret : Option Value → ax_H → Prop) : Array Value → State → Outcome → State → Prop := fun _ st oc t => (∃ (v : Option Value) (h' : ax_H), oc = .returned (v.map (ax_v g)) ∧ Ret v h' ∧ ax_P g h' t.heap) ∧ va_F (ax_A g) st t
def ax_W (g : ax_G) (nL d mc ms : Nat) (p : Program) (e : Env) (s : State) (m : MethodId) (args : Array Value) (below : List Frame) (meth : Method) (c : Code) (Ret : Option Value → ax_H → Prop) : ax_S → Prop := fun σ => ∀ (H : Heap) (locs : List Loc) (ls : Array Slot), ax_P g σ.2.2.2.1 H → va_S (ax_A g) s.heap H locs → ax_lr g ls nL σ.2.1 → W p g.1 e (ax_rm d mc ms) s m args below meth c H locs σ.2.2.2.2.1 σ.2.2.2.2.2 (MQ below (ax_Q g Ret) args s mc ms (ax_A g)) (F0 m σ.1 ls (σ.2.2.1.map (ax_v g)))
/-- an operation is sound at a place of a code -/
def ax_ok (g : ax_G) (cc : ByteArray) (nL : Nat) (ret : Option FieldType) (own nm : String) (d mc ms pc : Nat) (o : ax_O) : Prop := ∀ (p : Program) (e : Env) (s : State) (m : MethodId) (args : Array Value) (below : List Frame) (meth : Method) (c : Code), ax_V g cc nL ret own nm p s m args meth c → ∀ (Ret : Option Value → ax_H → Prop) (L : List (Option Value)) (st : List Value) (h : ax_H) (u1 u2 : Nat) (K : ax_S → Prop), o Ret (pc, L, st, h, u1, u2) K → (∀ σ, K σ → ax_W g nL d mc ms p e s m args below meth c Ret σ) → ax_W g nL d mc ms p e s m args below meth c Ret (pc, L, st, h, u1, u2)
def ao_no : ax_O := fun _ _ _ => False
variable {g : ax_G} {cc : ByteArray} {nL : Nat} {ret : Option FieldType} {own nm : String} {d mc ms pc : Nat}
theorem ak_no : ax_ok g cc nL ret own nm d mc ms pc ao_no := fun _ _ _ _ _ _ _ _ _ _ _ _ _ _ _ _ ho => ho.elim

def ao_iadd : ax_O := fun _ σ K => match σ with
  | (pc, L, st, h, u1, u2) => match st with
    | .int y :: .int x :: r => K (pc + 1, L, .int (x + y) :: r, h, u1, u2)
    | _ => False
theorem ak_iadd (hd : decode cc pc = .ok (.iadd, 1)) : ax_ok g cc nL ret own nm d mc ms pc (ao_iadd) := by
  intro p e s m args below meth c V Ret L st h u1 u2 K ho hK H locs ls hP hS hl
  dsimp only [ao_iadd] at ho
  split at ho
  · exact lv_iadd V.1 V.2.1 hd (hK _ ho H locs ls hP hS hl)
  · exact ho.elim
def ao_isub : ax_O := fun _ σ K => match σ with
  | (pc, L, st, h, u1, u2) => match st with
    | .int y :: .int x :: r => K (pc + 1, L, .int (x - y) :: r, h, u1, u2)
    | _ => False
theorem ak_isub (hd : decode cc pc = .ok (.isub, 1)) : ax_ok g cc nL ret own nm d mc ms pc (ao_isub) := by
  intro p e s m args below meth c V Ret L st h u1 u2 K ho hK H locs ls hP hS hl
  dsimp only [ao_isub] at ho
  split at ho
  · exact lv_isub V.1 V.2.1 hd (hK _ ho H locs ls hP hS hl)
  · exact ho.elim
def ao_imul : ax_O := fun _ σ K => match σ with
  | (pc, L, st, h, u1, u2) => match st with
    | .int y :: .int x :: r => K (pc + 1, L, .int (x * y) :: r, h, u1, u2)
    | _ => False
theorem ak_imul (hd : decode cc pc = .ok (.imul, 1)) : ax_ok g cc nL ret own nm d mc ms pc (ao_imul) := by
  intro p e s m args below meth c V Ret L st h u1 u2 K ho hK H locs ls hP hS hl
  dsimp only [ao_imul] at ho
  split at ho
  · exact lv_imul V.1 V.2.1 hd (hK _ ho H locs ls hP hS hl)
  · exact ho.elim
def ao_iand : ax_O := fun _ σ K => match σ with
  | (pc, L, st, h, u1, u2) => match st with
    | .int y :: .int x :: r => K (pc + 1, L, .int (x &&& y) :: r, h, u1, u2)
    | _ => False
theorem ak_iand (hd : decode cc pc = .ok (.iand, 1)) : ax_ok g cc nL ret own nm d mc ms pc (ao_iand) := by
  intro p e s m args below meth c V Ret L st h u1 u2 K ho hK H locs ls hP hS hl
  dsimp only [ao_iand] at ho
  split at ho
  · exact lv_iand V.1 V.2.1 hd (hK _ ho H locs ls hP hS hl)
  · exact ho.elim
def ao_ior : ax_O := fun _ σ K => match σ with
  | (pc, L, st, h, u1, u2) => match st with
    | .int y :: .int x :: r => K (pc + 1, L, .int (x ||| y) :: r, h, u1, u2)
    | _ => False
theorem ak_ior (hd : decode cc pc = .ok (.ior, 1)) : ax_ok g cc nL ret own nm d mc ms pc (ao_ior) := by
  intro p e s m args below meth c V Ret L st h u1 u2 K ho hK H locs ls hP hS hl
  dsimp only [ao_ior] at ho
  split at ho
  · exact lv_ior V.1 V.2.1 hd (hK _ ho H locs ls hP hS hl)
  · exact ho.elim
def ao_ixor : ax_O := fun _ σ K => match σ with
  | (pc, L, st, h, u1, u2) => match st with
    | .int y :: .int x :: r => K (pc + 1, L, .int (x ^^^ y) :: r, h, u1, u2)
    | _ => False
theorem ak_ixor (hd : decode cc pc = .ok (.ixor, 1)) : ax_ok g cc nL ret own nm d mc ms pc (ao_ixor) := by
  intro p e s m args below meth c V Ret L st h u1 u2 K ho hK H locs ls hP hS hl
  dsimp only [ao_ixor] at ho
  split at ho
  · exact lv_ixor V.1 V.2.1 hd (hK _ ho H locs ls hP hS hl)
  · exact ho.elim
def ao_ishl : ax_O := fun _ σ K => match σ with
  | (pc, L, st, h, u1, u2) => match st with
    | .int y :: .int x :: r => K (pc + 1, L, .int (x <<< (y &&& 31)) :: r, h, u1, u2)
    | _ => False
theorem ak_ishl (hd : decode cc pc = .ok (.ishl, 1)) : ax_ok g cc nL ret own nm d mc ms pc (ao_ishl) := by
  intro p e s m args below meth c V Ret L st h u1 u2 K ho hK H locs ls hP hS hl
  dsimp only [ao_ishl] at ho
  split at ho
  · exact lv_ishl V.1 V.2.1 hd (hK _ ho H locs ls hP hS hl)
  · exact ho.elim
def ao_ishr : ax_O := fun _ σ K => match σ with
  | (pc, L, st, h, u1, u2) => match st with
    | .int y :: .int x :: r => K (pc + 1, L, .int (x >>> (y &&& 31)) :: r, h, u1, u2)
    | _ => False
theorem ak_ishr (hd : decode cc pc = .ok (.ishr, 1)) : ax_ok g cc nL ret own nm d mc ms pc (ao_ishr) := by
  intro p e s m args below meth c V Ret L st h u1 u2 K ho hK H locs ls hP hS hl
  dsimp only [ao_ishr] at ho
  split at ho
  · exact lv_ishr V.1 V.2.1 hd (hK _ ho H locs ls hP hS hl)
  · exact ho.elim
def ao_iushr : ax_O := fun _ σ K => match σ with
  | (pc, L, st, h, u1, u2) => match st with
    | .int y :: .int x :: r => K (pc + 1, L, .int ((x.toUInt32 >>> (y.toUInt32 &&& Int32.toUInt32 31)).toInt32) :: r, h, u1, u2)
    | _ => False
theorem ak_iushr (hd : decode cc pc = .ok (.iushr, 1)) : ax_ok g cc nL ret own nm d mc ms pc (ao_iushr) := by
  intro p e s m args below meth c V Ret L st h u1 u2 K ho hK H locs ls hP hS hl
  dsimp only [ao_iushr] at ho
  split at ho
  · exact lv_iushr V.1 V.2.1 hd rfl (hK _ ho H locs ls hP hS hl)
  · exact ho.elim
def ao_idiv : ax_O := fun _ σ K => match σ with
  | (pc, L, st, h, u1, u2) => match st with
    | .int y :: .int x :: r => (¬ y = 0) ∧ K (pc + 1, L, .int (x / y) :: r, h, u1, u2)
    | _ => False
theorem ak_idiv (hd : decode cc pc = .ok (.idiv, 1)) : ax_ok g cc nL ret own nm d mc ms pc (ao_idiv) := by
  intro p e s m args below meth c V Ret L st h u1 u2 K ho hK H locs ls hP hS hl
  dsimp only [ao_idiv] at ho
  split at ho
  · exact lv_idiv V.1 V.2.1 hd ho.1 (hK _ ho.2 H locs ls hP hS hl)
  · exact ho.elim
def ao_irem : ax_O := fun _ σ K => match σ with
  | (pc, L, st, h, u1, u2) => match st with
    | .int y :: .int x :: r => (¬ y = 0) ∧ K (pc + 1, L, .int (x - x / y * y) :: r, h, u1, u2)
    | _ => False
theorem ak_irem (hd : decode cc pc = .ok (.irem, 1)) : ax_ok g cc nL ret own nm d mc ms pc (ao_irem) := by
  intro p e s m args below meth c V Ret L st h u1 u2 K ho hK H locs ls hP hS hl
  dsimp only [ao_irem] at ho
  split at ho
  · exact lv_irem V.1 V.2.1 hd ho.1 (hK _ ho.2 H locs ls hP hS hl)
  · exact ho.elim
def ao_ladd : ax_O := fun _ σ K => match σ with
  | (pc, L, st, h, u1, u2) => match st with
    | .long y :: .long x :: r => K (pc + 1, L, .long (x + y) :: r, h, u1, u2)
    | _ => False
theorem ak_ladd (hd : decode cc pc = .ok (.ladd, 1)) : ax_ok g cc nL ret own nm d mc ms pc (ao_ladd) := by
  intro p e s m args below meth c V Ret L st h u1 u2 K ho hK H locs ls hP hS hl
  dsimp only [ao_ladd] at ho
  split at ho
  · exact lv_ladd V.1 V.2.1 hd (hK _ ho H locs ls hP hS hl)
  · exact ho.elim
def ao_lsub : ax_O := fun _ σ K => match σ with
  | (pc, L, st, h, u1, u2) => match st with
    | .long y :: .long x :: r => K (pc + 1, L, .long (x - y) :: r, h, u1, u2)
    | _ => False
theorem ak_lsub (hd : decode cc pc = .ok (.lsub, 1)) : ax_ok g cc nL ret own nm d mc ms pc (ao_lsub) := by
  intro p e s m args below meth c V Ret L st h u1 u2 K ho hK H locs ls hP hS hl
  dsimp only [ao_lsub] at ho
  split at ho
  · exact lv_lsub V.1 V.2.1 hd (hK _ ho H locs ls hP hS hl)
  · exact ho.elim
def ao_lmul : ax_O := fun _ σ K => match σ with
  | (pc, L, st, h, u1, u2) => match st with
    | .long y :: .long x :: r => K (pc + 1, L, .long (x * y) :: r, h, u1, u2)
    | _ => False
theorem ak_lmul (hd : decode cc pc = .ok (.lmul, 1)) : ax_ok g cc nL ret own nm d mc ms pc (ao_lmul) := by
  intro p e s m args below meth c V Ret L st h u1 u2 K ho hK H locs ls hP hS hl
  dsimp only [ao_lmul] at ho
  split at ho
  · exact lv_lmul V.1 V.2.1 hd (hK _ ho H locs ls hP hS hl)
  · exact ho.elim
def ao_lor : ax_O := fun _ σ K => match σ with
  | (pc, L, st, h, u1, u2) => match st with
    | .long y :: .long x :: r => K (pc + 1, L, .long (x ||| y) :: r, h, u1, u2)
    | _ => False
theorem ak_lor (hd : decode cc pc = .ok (.lor, 1)) : ax_ok g cc nL ret own nm d mc ms pc (ao_lor) := by
  intro p e s m args below meth c V Ret L st h u1 u2 K ho hK H locs ls hP hS hl
  dsimp only [ao_lor] at ho
  split at ho
  · exact lv_lor V.1 V.2.1 hd (hK _ ho H locs ls hP hS hl)
  · exact ho.elim
def ao_ldiv : ax_O := fun _ σ K => match σ with
  | (pc, L, st, h, u1, u2) => match st with
    | .long y :: .long x :: r => (¬ y = 0) ∧ K (pc + 1, L, .long (x / y) :: r, h, u1, u2)
    | _ => False
theorem ak_ldiv (hd : decode cc pc = .ok (.ldiv, 1)) : ax_ok g cc nL ret own nm d mc ms pc (ao_ldiv) := by
  intro p e s m args below meth c V Ret L st h u1 u2 K ho hK H locs ls hP hS hl
  dsimp only [ao_ldiv] at ho
  split at ho
  · exact lv_ldiv V.1 V.2.1 hd ho.1 (hK _ ho.2 H locs ls hP hS hl)
  · exact ho.elim
def ao_lrem : ax_O := fun _ σ K => match σ with
  | (pc, L, st, h, u1, u2) => match st with
    | .long y :: .long x :: r => (¬ y = 0) ∧ K (pc + 1, L, .long (x - x / y * y) :: r, h, u1, u2)
    | _ => False
theorem ak_lrem (hd : decode cc pc = .ok (.lrem, 1)) : ax_ok g cc nL ret own nm d mc ms pc (ao_lrem) := by
  intro p e s m args below meth c V Ret L st h u1 u2 K ho hK H locs ls hP hS hl
  dsimp only [ao_lrem] at ho
  split at ho
  · exact lv_lrem V.1 V.2.1 hd ho.1 (hK _ ho.2 H locs ls hP hS hl)
  · exact ho.elim
def ao_lcmp : ax_O := fun _ σ K => match σ with
  | (pc, L, st, h, u1, u2) => match st with
    | .long y :: .long x :: r => K (pc + 1, L, .int (lg_cmp x y) :: r, h, u1, u2)
    | _ => False
theorem ak_lcmp (hd : decode cc pc = .ok (.lcmp, 1)) : ax_ok g cc nL ret own nm d mc ms pc (ao_lcmp) := by
  intro p e s m args below meth c V Ret L st h u1 u2 K ho hK H locs ls hP hS hl
  dsimp only [ao_lcmp] at ho
  split at ho
  · exact W.lcmp V.1 V.2.1 hd (hK _ ho H locs ls hP hS hl)
  · exact ho.elim
def ao_lshl : ax_O := fun _ σ K => match σ with
  | (pc, L, st, h, u1, u2) => match st with
    | .int y :: .long x :: r => K (pc + 1, L, .long (x <<< (y.toInt64 &&& 63)) :: r, h, u1, u2)
    | _ => False
theorem ak_lshl (hd : decode cc pc = .ok (.lshl, 1)) : ax_ok g cc nL ret own nm d mc ms pc (ao_lshl) := by
  intro p e s m args below meth c V Ret L st h u1 u2 K ho hK H locs ls hP hS hl
  dsimp only [ao_lshl] at ho
  split at ho
  · exact lv_lshl V.1 V.2.1 hd rfl (hK _ ho H locs ls hP hS hl)
  · exact ho.elim
def ao_lshr : ax_O := fun _ σ K => match σ with
  | (pc, L, st, h, u1, u2) => match st with
    | .int y :: .long x :: r => K (pc + 1, L, .long (x >>> (y.toInt64 &&& 63)) :: r, h, u1, u2)
    | _ => False
theorem ak_lshr (hd : decode cc pc = .ok (.lshr, 1)) : ax_ok g cc nL ret own nm d mc ms pc (ao_lshr) := by
  intro p e s m args below meth c V Ret L st h u1 u2 K ho hK H locs ls hP hS hl
  dsimp only [ao_lshr] at ho
  split at ho
  · exact lv_lshr V.1 V.2.1 hd rfl (hK _ ho H locs ls hP hS hl)
  · exact ho.elim
def ao_ineg : ax_O := fun _ σ K => match σ with
  | (pc, L, st, h, u1, u2) => match st with
    | .int x :: r => K (pc + 1, L, .int (-x) :: r, h, u1, u2)
    | _ => False
theorem ak_ineg (hd : decode cc pc = .ok (.ineg, 1)) : ax_ok g cc nL ret own nm d mc ms pc (ao_ineg) := by
  intro p e s m args below meth c V Ret L st h u1 u2 K ho hK H locs ls hP hS hl
  dsimp only [ao_ineg] at ho
  split at ho
  · exact lv_ineg V.1 V.2.1 hd (hK _ ho H locs ls hP hS hl)
  · exact ho.elim
def ao_lneg : ax_O := fun _ σ K => match σ with
  | (pc, L, st, h, u1, u2) => match st with
    | .long x :: r => K (pc + 1, L, .long (-x) :: r, h, u1, u2)
    | _ => False
theorem ak_lneg (hd : decode cc pc = .ok (.lneg, 1)) : ax_ok g cc nL ret own nm d mc ms pc (ao_lneg) := by
  intro p e s m args below meth c V Ret L st h u1 u2 K ho hK H locs ls hP hS hl
  dsimp only [ao_lneg] at ho
  split at ho
  · exact lv_lneg V.1 V.2.1 hd (hK _ ho H locs ls hP hS hl)
  · exact ho.elim
def ao_i2l : ax_O := fun _ σ K => match σ with
  | (pc, L, st, h, u1, u2) => match st with
    | .int x :: r => K (pc + 1, L, .long x.toInt64 :: r, h, u1, u2)
    | _ => False
theorem ak_i2l (hd : decode cc pc = .ok (.i2l, 1)) : ax_ok g cc nL ret own nm d mc ms pc (ao_i2l) := by
  intro p e s m args below meth c V Ret L st h u1 u2 K ho hK H locs ls hP hS hl
  dsimp only [ao_i2l] at ho
  split at ho
  · exact lv_i2l V.1 V.2.1 hd rfl (hK _ ho H locs ls hP hS hl)
  · exact ho.elim
def ao_l2i : ax_O := fun _ σ K => match σ with
  | (pc, L, st, h, u1, u2) => match st with
    | .long x :: r => K (pc + 1, L, .int x.toInt32 :: r, h, u1, u2)
    | _ => False
theorem ak_l2i (hd : decode cc pc = .ok (.l2i, 1)) : ax_ok g cc nL ret own nm d mc ms pc (ao_l2i) := by
  intro p e s m args below meth c V Ret L st h u1 u2 K ho hK H locs ls hP hS hl
  dsimp only [ao_l2i] at ho
  split at ho
  · exact lv_l2i V.1 V.2.1 hd rfl (hK _ ho H locs ls hP hS hl)
  · exact ho.elim
def ao_i2b : ax_O := fun _ σ K => match σ with
  | (pc, L, st, h, u1, u2) => match st with
    | .int x :: r => K (pc + 1, L, .int x.toInt8.toInt32 :: r, h, u1, u2)
    | _ => False
theorem ak_i2b (hd : decode cc pc = .ok (.i2b, 1)) : ax_ok g cc nL ret own nm d mc ms pc (ao_i2b) := by
  intro p e s m args below meth c V Ret L st h u1 u2 K ho hK H locs ls hP hS hl
  dsimp only [ao_i2b] at ho
  split at ho
  · exact lv_i2b V.1 V.2.1 hd rfl (hK _ ho H locs ls hP hS hl)
  · exact ho.elim
def ao_i2c : ax_O := fun _ σ K => match σ with
  | (pc, L, st, h, u1, u2) => match st with
    | .int x :: r => K (pc + 1, L, .int (x.toUInt32 % 65536).toInt32 :: r, h, u1, u2)
    | _ => False
theorem ak_i2c (hd : decode cc pc = .ok (.i2c, 1)) : ax_ok g cc nL ret own nm d mc ms pc (ao_i2c) := by
  intro p e s m args below meth c V Ret L st h u1 u2 K ho hK H locs ls hP hS hl
  dsimp only [ao_i2c] at ho
  split at ho
  · exact lv_i2c V.1 V.2.1 hd rfl (hK _ ho H locs ls hP hS hl)
  · exact ho.elim
def ao_dup : ax_O := fun _ σ K => match σ with
  | (pc, L, st, h, u1, u2) => match st with
    | v :: r => v.category = 1 ∧ K (pc + 1, L, v :: v :: r, h, u1, u2)
    | _ => False
theorem ak_dup (hd : decode cc pc = .ok (.dup, 1)) : ax_ok g cc nL ret own nm d mc ms pc (ao_dup) := by
  intro p e s m args below meth c V Ret L st h u1 u2 K ho hK H locs ls hP hS hl
  dsimp only [ao_dup] at ho
  split at ho
  · exact lv_dup V.1 V.2.1 hd ((ax_v_cat g _).trans ho.1) (hK _ ho.2 H locs ls hP hS hl)
  · exact ho.elim
def ao_pop : ax_O := fun _ σ K => match σ with
  | (pc, L, st, h, u1, u2) => match st with
    | v :: r => v.category = 1 ∧ K (pc + 1, L, r, h, u1, u2)
    | _ => False
theorem ak_pop (hd : decode cc pc = .ok (.pop, 1)) : ax_ok g cc nL ret own nm d mc ms pc (ao_pop) := by
  intro p e s m args below meth c V Ret L st h u1 u2 K ho hK H locs ls hP hS hl
  dsimp only [ao_pop] at ho
  split at ho
  · exact lv_pop V.1 V.2.1 hd ((ax_v_cat g _).trans ho.1) (hK _ ho.2 H locs ls hP hS hl)
  · exact ho.elim
def ao_pop2 : ax_O := fun _ σ K => match σ with
  | (pc, L, st, h, u1, u2) => match st with
    | v :: r => v.category = 2 ∧ K (pc + 1, L, r, h, u1, u2)
    | _ => False
theorem ak_pop2 (hd : decode cc pc = .ok (.pop2, 1)) : ax_ok g cc nL ret own nm d mc ms pc (ao_pop2) := by
  intro p e s m args below meth c V Ret L st h u1 u2 K ho hK H locs ls hP hS hl
  dsimp only [ao_pop2] at ho
  split at ho
  · exact lv_pop2_2 V.1 V.2.1 hd ((ax_v_cat g _).trans ho.1) (hK _ ho.2 H locs ls hP hS hl)
  · exact ho.elim
def ao_dup2 : ax_O := fun _ σ K => match σ with
  | (pc, L, st, h, u1, u2) => match st with
    | v :: w :: r => (v.category = 1 ∧ w.category = 1) ∧ K (pc + 1, L, v :: w :: v :: w :: r, h, u1, u2)
    | _ => False
theorem ak_dup2 (hd : decode cc pc = .ok (.dup2, 1)) : ax_ok g cc nL ret own nm d mc ms pc (ao_dup2) := by
  intro p e s m args below meth c V Ret L st h u1 u2 K ho hK H locs ls hP hS hl
  dsimp only [ao_dup2] at ho
  split at ho
  · exact lv_dup2_11 V.1 V.2.1 hd ((ax_v_cat g _).trans ho.1.1) ((ax_v_cat g _).trans ho.1.2) (hK _ ho.2 H locs ls hP hS hl)
  · exact ho.elim
def ao_ic (v : Int32) (len : Nat) : ax_O := fun _ σ K => match σ with
  | (pc, L, st, h, u1, u2) => K (pc + len, L, .int v :: st, h, u1, u2)
def ao_lc (v : Int64) (len : Nat) : ax_O := fun _ σ K => match σ with
  | (pc, L, st, h, u1, u2) => K (pc + len, L, .long v :: st, h, u1, u2)
def ao_null : ax_O := fun _ σ K => match σ with
  | (pc, L, st, h, u1, u2) => K (pc + 1, L, .null :: st, h, u1, u2)
theorem ak_iconst {n : Int} {v : Int32} (hv : Int32.ofInt n = v) (hd : decode cc pc = .ok (.iconst n, 1)) : ax_ok g cc nL ret own nm d mc ms pc (ao_ic v 1) := by
  intro p e s m args below meth c V Ret L st h u1 u2 K ho hK H locs ls hP hS hl
  dsimp only [ao_ic] at ho
  exact lv_iconst V.1 V.2.1 hd hv (hK _ ho H locs ls hP hS hl)
theorem ak_bipush {n : Int} {v : Int32} (hv : (Int8.ofInt n).toInt32 = v) (hd : decode cc pc = .ok (.bipush n, 2)) : ax_ok g cc nL ret own nm d mc ms pc (ao_ic v 2) := by
  intro p e s m args below meth c V Ret L st h u1 u2 K ho hK H locs ls hP hS hl
  dsimp only [ao_ic] at ho
  exact lv_bipush V.1 V.2.1 hd hv (hK _ ho H locs ls hP hS hl)
theorem ak_sipush {n : Int} {v : Int32} (hv : (Int16.ofInt n).toInt32 = v) (hd : decode cc pc = .ok (.sipush n, 3)) : ax_ok g cc nL ret own nm d mc ms pc (ao_ic v 3) := by
  intro p e s m args below meth c V Ret L st h u1 u2 K ho hK H locs ls hP hS hl
  dsimp only [ao_ic] at ho
  exact lv_sipush V.1 V.2.1 hd hv (hK _ ho H locs ls hP hS hl)
theorem ak_lconst {n : Fin 2} {v : Int64} (hv : Int64.ofNat (n : Nat) = v) (hd : decode cc pc = .ok (.lconst n, 1)) : ax_ok g cc nL ret own nm d mc ms pc (ao_lc v 1) := by
  intro p e s m args below meth c V Ret L st h u1 u2 K ho hK H locs ls hP hS hl
  dsimp only [ao_lc] at ho
  exact lv_lconst V.1 V.2.1 hd hv (hK _ ho H locs ls hP hS hl)
theorem ak_null (hd : decode cc pc = .ok (.aconst_null, 1)) : ax_ok g cc nL ret own nm d mc ms pc (ao_null) := by
  intro p e s m args below meth c V Ret L st h u1 u2 K ho hK H locs ls hP hS hl
  dsimp only [ao_null] at ho
  exact lv_null V.1 V.2.1 hd (hK _ ho H locs ls hP hS hl)
theorem ak_ldc {i : Nat} {v : Int32} (hw : Cond.constant own i v ∈ lw_gd) (hd : decode cc pc = .ok (.ldc i, 2)) : ax_ok g cc nL ret own nm d mc ms pc (ao_ic v 2) := by
  intro p e s m args below meth c V Ret L st h u1 u2 K ho hK H locs ls hP hS hl
  dsimp only [ao_ic] at ho
  exact lv_ldc V.1 V.2.1 V.2.2.2.2.2.1 (V.2.2.2.2.2.2.2.1 _ hw) hd (hK _ ho H locs ls hP hS hl)
theorem ak_ldcw {i : Nat} {v : Int32} (hw : Cond.constant own i v ∈ lw_gd) (hd : decode cc pc = .ok (.ldc_w i, 3)) : ax_ok g cc nL ret own nm d mc ms pc (ao_ic v 3) := by
  intro p e s m args below meth c V Ret L st h u1 u2 K ho hK H locs ls hP hS hl
  dsimp only [ao_ic] at ho
  exact lv_ldcw V.1 V.2.1 V.2.2.2.2.2.1 (V.2.2.2.2.2.2.2.1 _ hw) hd (hK _ ho H locs ls hP hS hl)
theorem ak_ldc2 {i : Nat} {v : Int64} (hw : Cond.constantLong own i v ∈ lw_gd) (hd : decode cc pc = .ok (.ldc2_w i, 3)) : ax_ok g cc nL ret own nm d mc ms pc (ao_lc v 3) := by
  intro p e s m args below meth c V Ret L st h u1 u2 K ho hK H locs ls hP hS hl
  dsimp only [ao_lc] at ho
  exact lv_ldc2 V.1 V.2.1 V.2.2.2.2.2.1 (V.2.2.2.2.2.2.2.1 _ hw) hd (hK _ ho H locs ls hP hS hl)
def ao_il (i len : Nat) : ax_O := fun _ σ K => match σ with
  | (pc, L, st, h, u1, u2) => match ax_g L i with
    | some (.int x) => K (pc + len, L, .int x :: st, h, u1, u2)
    | _ => False
theorem ak_iload_n {k : Fin 4} {i : Nat} (hi : (k : Nat) = i) (hd : decode cc pc = .ok (.iload_n k, 1)) : ax_ok g cc nL ret own nm d mc ms pc (ao_il i 1) := by
  intro p e s m args below meth c V Ret L st h u1 u2 K ho hK H locs ls hP hS hl
  dsimp only [ao_il] at ho
  split at ho
  · rename_i hg
    exact lv_iload_n V.1 V.2.1 hd hi (ax_lr_get hl hg) (hK _ ho H locs ls hP hS hl)
  · exact ho.elim
theorem ak_iload {i : Nat} (hd : decode cc pc = .ok (.iload i, 2)) : ax_ok g cc nL ret own nm d mc ms pc (ao_il i 2) := by
  intro p e s m args below meth c V Ret L st h u1 u2 K ho hK H locs ls hP hS hl
  dsimp only [ao_il] at ho
  split at ho
  · rename_i hg
    exact lv_iload V.1 V.2.1 hd (ax_lr_get hl hg) (hK _ ho H locs ls hP hS hl)
  · exact ho.elim
def ao_ll (i len : Nat) : ax_O := fun _ σ K => match σ with
  | (pc, L, st, h, u1, u2) => match ax_g L i with
    | some (.long x) => K (pc + len, L, .long x :: st, h, u1, u2)
    | _ => False
theorem ak_lload_n {k : Fin 4} {i : Nat} (hi : (k : Nat) = i) (hd : decode cc pc = .ok (.lload_n k, 1)) : ax_ok g cc nL ret own nm d mc ms pc (ao_ll i 1) := by
  intro p e s m args below meth c V Ret L st h u1 u2 K ho hK H locs ls hP hS hl
  dsimp only [ao_ll] at ho
  split at ho
  · rename_i hg
    exact lv_lload_n V.1 V.2.1 hd hi (ax_lr_get hl hg) (hK _ ho H locs ls hP hS hl)
  · exact ho.elim
theorem ak_lload {i : Nat} (hd : decode cc pc = .ok (.lload i, 2)) : ax_ok g cc nL ret own nm d mc ms pc (ao_ll i 2) := by
  intro p e s m args below meth c V Ret L st h u1 u2 K ho hK H locs ls hP hS hl
  dsimp only [ao_ll] at ho
  split at ho
  · rename_i hg
    exact lv_lload V.1 V.2.1 hd (ax_lr_get hl hg) (hK _ ho H locs ls hP hS hl)
  · exact ho.elim
def ao_al (i len : Nat) : ax_O := fun _ σ K => match σ with
  | (pc, L, st, h, u1, u2) => match ax_g L i with
    | some (.ref x) => K (pc + len, L, .ref x :: st, h, u1, u2)
    | some .null => K (pc + len, L, .null :: st, h, u1, u2)
    | _ => False
theorem ak_aload_n {k : Fin 4} {i : Nat} (hi : (k : Nat) = i) (hd : decode cc pc = .ok (.aload_n k, 1)) : ax_ok g cc nL ret own nm d mc ms pc (ao_al i 1) := by
  intro p e s m args below meth c V Ret L st h u1 u2 K ho hK H locs ls hP hS hl
  dsimp only [ao_al] at ho
  split at ho
  · rename_i hg
    exact lv_aload_n V.1 V.2.1 hd hi (ax_lr_get hl hg) (hK _ ho H locs ls hP hS hl)
  · rename_i hg
    exact lv_aload_nN V.1 V.2.1 hd hi (ax_lr_get hl hg) (hK _ ho H locs ls hP hS hl)
  · exact ho.elim
theorem ak_aload {i : Nat} (hd : decode cc pc = .ok (.aload i, 2)) : ax_ok g cc nL ret own nm d mc ms pc (ao_al i 2) := by
  intro p e s m args below meth c V Ret L st h u1 u2 K ho hK H locs ls hP hS hl
  dsimp only [ao_al] at ho
  split at ho
  · rename_i hg
    exact lv_aload V.1 V.2.1 hd (ax_lr_get hl hg) (hK _ ho H locs ls hP hS hl)
  · rename_i hg
    exact lv_aloadN V.1 V.2.1 hd (ax_lr_get hl hg) (hK _ ho H locs ls hP hS hl)
  · exact ho.elim
def ao_is (i len : Nat) : ax_O := fun _ σ K => match σ with
  | (pc, L, st, h, u1, u2) => match st with
    | .int x :: r => K (pc + len, ax_st L i (.int x), r, h, u1, u2)
    | _ => False
theorem ak_istore_n {k : Fin 4} {i : Nat} (hi : (k : Nat) = i) (hn : i < nL) (hd : decode cc pc = .ok (.istore_n k, 1)) : ax_ok g cc nL ret own nm d mc ms pc (ao_is i 1) := by
  intro p e s m args below meth c V Ret L st h u1 u2 K ho hK H locs ls hP hS hl
  dsimp only [ao_is] at ho
  split at ho
  · exact lv_istore_n V.1 V.2.1 hd hi hl hn rfl (fun ls' hl' => hK _ ho H locs ls' hP hS (ax_lr_st hl'))
  · exact ho.elim
theorem ak_istore {i : Nat} (hn : i < nL) (hd : decode cc pc = .ok (.istore i, 2)) : ax_ok g cc nL ret own nm d mc ms pc (ao_is i 2) := by
  intro p e s m args below meth c V Ret L st h u1 u2 K ho hK H locs ls hP hS hl
  dsimp only [ao_is] at ho
  split at ho
  · exact lv_istore V.1 V.2.1 hd hl hn rfl (fun ls' hl' => hK _ ho H locs ls' hP hS (ax_lr_st hl'))
  · exact ho.elim
def ao_ls (i len : Nat) : ax_O := fun _ σ K => match σ with
  | (pc, L, st, h, u1, u2) => match st with
    | .long x :: r => K (pc + len, ax_st2 L i (.long x), r, h, u1, u2)
    | _ => False
theorem ak_lstore_n {k : Fin 4} {i : Nat} (hi : (k : Nat) = i) (hn : i + 1 < nL) (hd : decode cc pc = .ok (.lstore_n k, 1)) : ax_ok g cc nL ret own nm d mc ms pc (ao_ls i 1) := by
  intro p e s m args below meth c V Ret L st h u1 u2 K ho hK H locs ls hP hS hl
  dsimp only [ao_ls] at ho
  split at ho
  · exact lv_lstore_n V.1 V.2.1 hd hi hl hn rfl (fun ls' hl' => hK _ ho H locs ls' hP hS (ax_lr_st2 hl'))
  · exact ho.elim
theorem ak_lstore {i : Nat} (hn : i + 1 < nL) (hd : decode cc pc = .ok (.lstore i, 2)) : ax_ok g cc nL ret own nm d mc ms pc (ao_ls i 2) := by
  intro p e s m args below meth c V Ret L st h u1 u2 K ho hK H locs ls hP hS hl
  dsimp only [ao_ls] at ho
  split at ho
  · exact lv_lstore V.1 V.2.1 hd hl hn rfl (fun ls' hl' => hK _ ho H locs ls' hP hS (ax_lr_st2 hl'))
  · exact ho.elim
def ao_as (i len : Nat) : ax_O := fun _ σ K => match σ with
  | (pc, L, st, h, u1, u2) => match st with
    | .ref x :: r => K (pc + len, ax_st L i (.ref x), r, h, u1, u2)
    | .null :: r => K (pc + len, ax_st L i .null, r, h, u1, u2)
    | _ => False
theorem ak_astore_n {k : Fin 4} {i : Nat} (hi : (k : Nat) = i) (hn : i < nL) (hd : decode cc pc = .ok (.astore_n k, 1)) : ax_ok g cc nL ret own nm d mc ms pc (ao_as i 1) := by
  intro p e s m args below meth c V Ret L st h u1 u2 K ho hK H locs ls hP hS hl
  dsimp only [ao_as] at ho
  split at ho
  · exact lv_astore_n V.1 V.2.1 hd hi hl hn rfl (fun ls' hl' => hK _ ho H locs ls' hP hS (ax_lr_st hl'))
  · exact lv_astore_nN V.1 V.2.1 hd hi hl hn rfl (fun ls' hl' => hK _ ho H locs ls' hP hS (ax_lr_st hl'))
  · exact ho.elim
theorem ak_astore {i : Nat} (hn : i < nL) (hd : decode cc pc = .ok (.astore i, 2)) : ax_ok g cc nL ret own nm d mc ms pc (ao_as i 2) := by
  intro p e s m args below meth c V Ret L st h u1 u2 K ho hK H locs ls hP hS hl
  dsimp only [ao_as] at ho
  split at ho
  · exact lv_astore V.1 V.2.1 hd hl hn rfl (fun ls' hl' => hK _ ho H locs ls' hP hS (ax_lr_st hl'))
  · exact lv_astoreN V.1 V.2.1 hd hl hn rfl (fun ls' hl' => hK _ ho H locs ls' hP hS (ax_lr_st hl'))
  · exact ho.elim
def ao_iinc (i : Nat) (v : Int32) : ax_O := fun _ σ K => match σ with
  | (pc, L, st, h, u1, u2) => match ax_g L i with
    | some (.int x) => K (pc + 3, ax_st L i (.int (x + v)), st, h, u1, u2)
    | _ => False
theorem ak_iinc {i : Nat} {n : Int} {v : Int32} (hv : Int32.ofInt n = v) (hn : i < nL) (hd : decode cc pc = .ok (.iinc i n, 3)) : ax_ok g cc nL ret own nm d mc ms pc (ao_iinc i v) := by
  intro p e s m args below meth c V Ret L st h u1 u2 K ho hK H locs ls hP hS hl
  dsimp only [ao_iinc] at ho
  subst hv
  split at ho
  · rename_i x hg
    have hm : (i, Value.int x) ∈ ax_as 0 (L.map (Option.map (ax_v g))) := (ax_as_mem _ _ _ _).mpr ⟨Nat.zero_le _, by rw [Nat.sub_zero, List.getElem?_map, ax_g_get _ _ _ hg]; rfl⟩
    obtain ⟨k, hk⟩ := List.getElem?_of_mem hm
    exact lv_iinc V.1 V.2.1 hd hl hk rfl hn rfl (fun ls' hl' => hK _ ho H locs ls' hP hS (ax_lr_st (v := .int (x + Int32.ofInt n)) hl'))
  · exact ho.elim
def ao_if_eq (tgt : Nat) : ax_O := fun _ σ K => match σ with
  | (pc, L, st, h, u1, u2) => match st with
    | .int x :: r => ((x = 0) → K (tgt, L, r, h, u1, u2)) ∧ ((¬ (x = 0)) → K (pc + 3, L, r, h, u1, u2))
    | _ => False
theorem ak_if_eq {off : Int} {tgt : Nat} (ht : (pc : Int) + off = (tgt : Int)) (hd : decode cc pc = .ok (.ifCond .eq off, 3)) : ax_ok g cc nL ret own nm d mc ms pc (ao_if_eq tgt) := by
  intro p e s m args below meth c V Ret L st h u1 u2 K ho hK H locs ls hP hS hl
  dsimp only [ao_if_eq] at ho
  split at ho
  · exact lv_if_eq V.1 V.2.1 hd ht (fun q => hK _ (ho.1 q) H locs ls hP hS hl) (fun q => hK _ (ho.2 q) H locs ls hP hS hl)
  · exact ho.elim
def ao_icmp_eq (tgt : Nat) : ax_O := fun _ σ K => match σ with
  | (pc, L, st, h, u1, u2) => match st with
    | .int y :: .int x :: r => ((x = y) → K (tgt, L, r, h, u1, u2)) ∧ ((¬ (x = y)) → K (pc + 3, L, r, h, u1, u2))
    | _ => False
theorem ak_icmp_eq {off : Int} {tgt : Nat} (ht : (pc : Int) + off = (tgt : Int)) (hd : decode cc pc = .ok (.if_icmp .eq off, 3)) : ax_ok g cc nL ret own nm d mc ms pc (ao_icmp_eq tgt) := by
  intro p e s m args below meth c V Ret L st h u1 u2 K ho hK H locs ls hP hS hl
  dsimp only [ao_icmp_eq] at ho
  split at ho
  · exact lv_icmp_eq V.1 V.2.1 hd ht (fun q => hK _ (ho.1 q) H locs ls hP hS hl) (fun q => hK _ (ho.2 q) H locs ls hP hS hl)
  · exact ho.elim
def ao_if_ne (tgt : Nat) : ax_O := fun _ σ K => match σ with
  | (pc, L, st, h, u1, u2) => match st with
    | .int x :: r => ((¬ x = 0) → K (tgt, L, r, h, u1, u2)) ∧ ((x = 0) → K (pc + 3, L, r, h, u1, u2))
    | _ => False
theorem ak_if_ne {off : Int} {tgt : Nat} (ht : (pc : Int) + off = (tgt : Int)) (hd : decode cc pc = .ok (.ifCond .ne off, 3)) : ax_ok g cc nL ret own nm d mc ms pc (ao_if_ne tgt) := by
  intro p e s m args below meth c V Ret L st h u1 u2 K ho hK H locs ls hP hS hl
  dsimp only [ao_if_ne] at ho
  split at ho
  · exact lv_if_ne V.1 V.2.1 hd ht (fun q => hK _ (ho.1 q) H locs ls hP hS hl) (fun q => hK _ (ho.2 q) H locs ls hP hS hl)
  · exact ho.elim
def ao_icmp_ne (tgt : Nat) : ax_O := fun _ σ K => match σ with
  | (pc, L, st, h, u1, u2) => match st with
    | .int y :: .int x :: r => ((¬ x = y) → K (tgt, L, r, h, u1, u2)) ∧ ((x = y) → K (pc + 3, L, r, h, u1, u2))
    | _ => False
theorem ak_icmp_ne {off : Int} {tgt : Nat} (ht : (pc : Int) + off = (tgt : Int)) (hd : decode cc pc = .ok (.if_icmp .ne off, 3)) : ax_ok g cc nL ret own nm d mc ms pc (ao_icmp_ne tgt) := by
  intro p e s m args below meth c V Ret L st h u1 u2 K ho hK H locs ls hP hS hl
  dsimp only [ao_icmp_ne] at ho
  split at ho
  · exact lv_icmp_ne V.1 V.2.1 hd ht (fun q => hK _ (ho.1 q) H locs ls hP hS hl) (fun q => hK _ (ho.2 q) H locs ls hP hS hl)
  · exact ho.elim
def ao_if_lt (tgt : Nat) : ax_O := fun _ σ K => match σ with
  | (pc, L, st, h, u1, u2) => match st with
    | .int x :: r => ((x < 0) → K (tgt, L, r, h, u1, u2)) ∧ ((¬ (x < 0)) → K (pc + 3, L, r, h, u1, u2))
    | _ => False
theorem ak_if_lt {off : Int} {tgt : Nat} (ht : (pc : Int) + off = (tgt : Int)) (hd : decode cc pc = .ok (.ifCond .lt off, 3)) : ax_ok g cc nL ret own nm d mc ms pc (ao_if_lt tgt) := by
  intro p e s m args below meth c V Ret L st h u1 u2 K ho hK H locs ls hP hS hl
  dsimp only [ao_if_lt] at ho
  split at ho
  · exact lv_if_lt V.1 V.2.1 hd ht (fun q => hK _ (ho.1 q) H locs ls hP hS hl) (fun q => hK _ (ho.2 q) H locs ls hP hS hl)
  · exact ho.elim
def ao_icmp_lt (tgt : Nat) : ax_O := fun _ σ K => match σ with
  | (pc, L, st, h, u1, u2) => match st with
    | .int y :: .int x :: r => ((x < y) → K (tgt, L, r, h, u1, u2)) ∧ ((¬ (x < y)) → K (pc + 3, L, r, h, u1, u2))
    | _ => False
theorem ak_icmp_lt {off : Int} {tgt : Nat} (ht : (pc : Int) + off = (tgt : Int)) (hd : decode cc pc = .ok (.if_icmp .lt off, 3)) : ax_ok g cc nL ret own nm d mc ms pc (ao_icmp_lt tgt) := by
  intro p e s m args below meth c V Ret L st h u1 u2 K ho hK H locs ls hP hS hl
  dsimp only [ao_icmp_lt] at ho
  split at ho
  · exact lv_icmp_lt V.1 V.2.1 hd ht (fun q => hK _ (ho.1 q) H locs ls hP hS hl) (fun q => hK _ (ho.2 q) H locs ls hP hS hl)
  · exact ho.elim
def ao_if_ge (tgt : Nat) : ax_O := fun _ σ K => match σ with
  | (pc, L, st, h, u1, u2) => match st with
    | .int x :: r => ((0 ≤ x) → K (tgt, L, r, h, u1, u2)) ∧ ((¬ (0 ≤ x)) → K (pc + 3, L, r, h, u1, u2))
    | _ => False
theorem ak_if_ge {off : Int} {tgt : Nat} (ht : (pc : Int) + off = (tgt : Int)) (hd : decode cc pc = .ok (.ifCond .ge off, 3)) : ax_ok g cc nL ret own nm d mc ms pc (ao_if_ge tgt) := by
  intro p e s m args below meth c V Ret L st h u1 u2 K ho hK H locs ls hP hS hl
  dsimp only [ao_if_ge] at ho
  split at ho
  · exact lv_if_ge V.1 V.2.1 hd ht (fun q => hK _ (ho.1 q) H locs ls hP hS hl) (fun q => hK _ (ho.2 q) H locs ls hP hS hl)
  · exact ho.elim
def ao_icmp_ge (tgt : Nat) : ax_O := fun _ σ K => match σ with
  | (pc, L, st, h, u1, u2) => match st with
    | .int y :: .int x :: r => ((y ≤ x) → K (tgt, L, r, h, u1, u2)) ∧ ((¬ (y ≤ x)) → K (pc + 3, L, r, h, u1, u2))
    | _ => False
theorem ak_icmp_ge {off : Int} {tgt : Nat} (ht : (pc : Int) + off = (tgt : Int)) (hd : decode cc pc = .ok (.if_icmp .ge off, 3)) : ax_ok g cc nL ret own nm d mc ms pc (ao_icmp_ge tgt) := by
  intro p e s m args below meth c V Ret L st h u1 u2 K ho hK H locs ls hP hS hl
  dsimp only [ao_icmp_ge] at ho
  split at ho
  · exact lv_icmp_ge V.1 V.2.1 hd ht (fun q => hK _ (ho.1 q) H locs ls hP hS hl) (fun q => hK _ (ho.2 q) H locs ls hP hS hl)
  · exact ho.elim
def ao_if_gt (tgt : Nat) : ax_O := fun _ σ K => match σ with
  | (pc, L, st, h, u1, u2) => match st with
    | .int x :: r => ((0 < x) → K (tgt, L, r, h, u1, u2)) ∧ ((¬ (0 < x)) → K (pc + 3, L, r, h, u1, u2))
    | _ => False
theorem ak_if_gt {off : Int} {tgt : Nat} (ht : (pc : Int) + off = (tgt : Int)) (hd : decode cc pc = .ok (.ifCond .gt off, 3)) : ax_ok g cc nL ret own nm d mc ms pc (ao_if_gt tgt) := by
  intro p e s m args below meth c V Ret L st h u1 u2 K ho hK H locs ls hP hS hl
  dsimp only [ao_if_gt] at ho
  split at ho
  · exact lv_if_gt V.1 V.2.1 hd ht (fun q => hK _ (ho.1 q) H locs ls hP hS hl) (fun q => hK _ (ho.2 q) H locs ls hP hS hl)
  · exact ho.elim
def ao_icmp_gt (tgt : Nat) : ax_O := fun _ σ K => match σ with
  | (pc, L, st, h, u1, u2) => match st with
    | .int y :: .int x :: r => ((y < x) → K (tgt, L, r, h, u1, u2)) ∧ ((¬ (y < x)) → K (pc + 3, L, r, h, u1, u2))
    | _ => False
theorem ak_icmp_gt {off : Int} {tgt : Nat} (ht : (pc : Int) + off = (tgt : Int)) (hd : decode cc pc = .ok (.if_icmp .gt off, 3)) : ax_ok g cc nL ret own nm d mc ms pc (ao_icmp_gt tgt) := by
  intro p e s m args below meth c V Ret L st h u1 u2 K ho hK H locs ls hP hS hl
  dsimp only [ao_icmp_gt] at ho
  split at ho
  · exact lv_icmp_gt V.1 V.2.1 hd ht (fun q => hK _ (ho.1 q) H locs ls hP hS hl) (fun q => hK _ (ho.2 q) H locs ls hP hS hl)
  · exact ho.elim
def ao_if_le (tgt : Nat) : ax_O := fun _ σ K => match σ with
  | (pc, L, st, h, u1, u2) => match st with
    | .int x :: r => ((x ≤ 0) → K (tgt, L, r, h, u1, u2)) ∧ ((¬ (x ≤ 0)) → K (pc + 3, L, r, h, u1, u2))
    | _ => False
theorem ak_if_le {off : Int} {tgt : Nat} (ht : (pc : Int) + off = (tgt : Int)) (hd : decode cc pc = .ok (.ifCond .le off, 3)) : ax_ok g cc nL ret own nm d mc ms pc (ao_if_le tgt) := by
  intro p e s m args below meth c V Ret L st h u1 u2 K ho hK H locs ls hP hS hl
  dsimp only [ao_if_le] at ho
  split at ho
  · exact lv_if_le V.1 V.2.1 hd ht (fun q => hK _ (ho.1 q) H locs ls hP hS hl) (fun q => hK _ (ho.2 q) H locs ls hP hS hl)
  · exact ho.elim
def ao_icmp_le (tgt : Nat) : ax_O := fun _ σ K => match σ with
  | (pc, L, st, h, u1, u2) => match st with
    | .int y :: .int x :: r => ((x ≤ y) → K (tgt, L, r, h, u1, u2)) ∧ ((¬ (x ≤ y)) → K (pc + 3, L, r, h, u1, u2))
    | _ => False
theorem ak_icmp_le {off : Int} {tgt : Nat} (ht : (pc : Int) + off = (tgt : Int)) (hd : decode cc pc = .ok (.if_icmp .le off, 3)) : ax_ok g cc nL ret own nm d mc ms pc (ao_icmp_le tgt) := by
  intro p e s m args below meth c V Ret L st h u1 u2 K ho hK H locs ls hP hS hl
  dsimp only [ao_icmp_le] at ho
  split at ho
  · exact lv_icmp_le V.1 V.2.1 hd ht (fun q => hK _ (ho.1 q) H locs ls hP hS hl) (fun q => hK _ (ho.2 q) H locs ls hP hS hl)
  · exact ho.elim
def ao_goto (tgt : Nat) : ax_O := fun _ σ K => match σ with
  | (pc, L, st, h, u1, u2) => K (tgt, L, st, h, u1, u2)
theorem ak_goto {off : Int} {tgt : Nat} (ht : (pc : Int) + off = (tgt : Int)) (hd : decode cc pc = .ok (.goto off, 3)) : ax_ok g cc nL ret own nm d mc ms pc (ao_goto tgt) := by
  intro p e s m args below meth c V Ret L st h u1 u2 K ho hK H locs ls hP hS hl
  dsimp only [ao_goto] at ho
  exact lv_goto V.1 V.2.1 hd ht (hK _ ho H locs ls hP hS hl)
def ao_ifnull (tgt : Nat) : ax_O := fun _ σ K => match σ with
  | (pc, L, st, h, u1, u2) => match st with
    | .ref _ :: r => K (pc + 3, L, r, h, u1, u2)
    | .null :: r => K (tgt, L, r, h, u1, u2)
    | _ => False
theorem ak_ifnull {off : Int} {tgt : Nat} (ht : (pc : Int) + off = (tgt : Int)) (hd : decode cc pc = .ok (.ifnull off, 3)) : ax_ok g cc nL ret own nm d mc ms pc (ao_ifnull tgt) := by
  intro p e s m args below meth c V Ret L st h u1 u2 K ho hK H locs ls hP hS hl
  dsimp only [ao_ifnull] at ho
  split at ho
  · exact lv_ifnull V.1 V.2.1 hd (hK _ ho H locs ls hP hS hl)
  · exact lv_ifnullN V.1 V.2.1 hd ht (hK _ ho H locs ls hP hS hl)
  · exact ho.elim
def ao_ifnonnull (tgt : Nat) : ax_O := fun _ σ K => match σ with
  | (pc, L, st, h, u1, u2) => match st with
    | .ref _ :: r => K (tgt, L, r, h, u1, u2)
    | .null :: r => K (pc + 3, L, r, h, u1, u2)
    | _ => False
theorem ak_ifnonnull {off : Int} {tgt : Nat} (ht : (pc : Int) + off = (tgt : Int)) (hd : decode cc pc = .ok (.ifnonnull off, 3)) : ax_ok g cc nL ret own nm d mc ms pc (ao_ifnonnull tgt) := by
  intro p e s m args below meth c V Ret L st h u1 u2 K ho hK H locs ls hP hS hl
  dsimp only [ao_ifnonnull] at ho
  split at ho
  · exact lv_ifnonnull V.1 V.2.1 hd ht (hK _ ho H locs ls hP hS hl)
  · exact lv_ifnonnullN V.1 V.2.1 hd (hK _ ho H locs ls hP hS hl)
  · exact ho.elim
end
end

section
section
variable {g : ax_G} {cc : ByteArray} {nL : Nat} {ret : Option FieldType} {own nm : String} {d mc ms pc : Nat}
theorem ax_P_set {h h' : ax_H} {H H1 : Heap} {a : Nat} (hP : ax_P g h H) (hn : h'.1 = h.1) (ho : ∀ b, b ≠ a → ax_e g h' b = ax_e g h b) (ha : a < h.1) (hx : va_at g.2.2.2.1 vwCl (g.2.1 + a, ax_e g h' a) H1) (z : H1.size = H.size) (oq : ∀ q : Nat, q ≠ g.2.1 + a → H1[q]? = H[q]?) : ax_P g h' H1 := by
  have e := hP.1.set ax_w_D (ax_w_get ha) hx oq
  rw [ax_w_set hn rfl ho] at e
  exact ⟨e, by rw [z, hP.2.1, hn], by rw [hn]; exact hP.2.2⟩
theorem ax_at {h : ax_H} {H : Heap} {a : Nat} (hP : ax_P g h H) (ha : a < h.1) : va_at g.2.2.2.1 vwCl (g.2.1 + a, ax_e g h a) H := hP.1 a _ (ax_w_get ha)
theorem ax_vr {h : ax_H} {H : Heap} {a : Nat} (hP : ax_P g h H) (ha : a < h.1) : ax_v g (.ref a) = .ref (g.2.1 + a) := by
  show Value.ref (ax_ad g a) = _
  rw [ax_ad_lt (Nat.lt_trans ha hP.2.2)]
section
variable {p : Program} {e : Env} {s : State} {m : MethodId} {args : Array Value} {below : List Frame} {meth : Method} {c : Code} {R : Room} {cells slots : Nat} {Q : State → Prop} {ls : Array Slot} {rest : List Value}
theorem ax_putW {h h' : ax_H} {H : Heap} {locs : List Loc} {a ci index k N : Nat} {C : String} {T : u_T} {ty0 : Nat → FieldType} {ty : FieldType} {v : Value} (V : ax_V g cc nL ret own nm p s m args meth c) (hP : ax_P g h H) (hS0 : va_S (ax_A g) s.heap H locs) (ha : a < h.1) (hs : (h.2.1 a).1 = ci) (hci : ci < 11) (hc : vwCl[ci]? = some (C, T, N)) (hin : ∀ w ∈ u_ws C T N, w ∈ lw_gd) (hty : ∀ k, k < N → parseFieldDescriptor (T k).2.2.1 = some (ty0 k)) (hnm : ∀ a, a < N → ∀ b, b < N → a ≠ b → (T a).2.1 ≠ (T b).2.1) (hk : k < N) (hw : Cond.fieldLink own index (T k).1 (T k).2.1 (T k).2.2.1 ∈ lw_gd) (hfin : (T k).2.2.2 = false ∨ ((T k).2.2.2 = true ∧ nm = "<init>" ∧ (T k).1 = own)) (hd0 : parseFieldDescriptor (T k).2.2.1 = some ty) (hn : narrow ty v = v) (hfit : fits ty v = true) (hlen : k < (ax_ft ci).length) (hd : decode cc pc = .ok (.putfield index, 3)) (hn' : h'.1 = h.1) (hs' : h'.2.1 a = h.2.1 a) (hfl : ax_fl g h' (ax_ft ci) a = (ax_fl g h (ax_ft ci) a).set k v) (ho : ∀ b, b ≠ a → ax_e g h' b = ax_e g h b)
    (kk : ∀ (H1 : Heap) (locs1 : List Loc), ax_P g h' H1 → va_S (ax_A g) s.heap H1 locs1 → W p g.1 e R s m args below meth c H1 locs1 cells slots Q (F0 m (pc + 3) ls rest)) : W p g.1 e R s m args below meth c H locs cells slots Q (F0 m pc ls (v :: .ref (g.2.1 + a) :: rest)) := by
  obtain ⟨hx, hb, -, -, -, hown, hname, hts, hK, -, -⟩ := V
  have hap := va_apart (own := own) hts hin ty0 hty hnm hK hc
  have hat := ax_at hP ha
  rw [ax_e_obj hs hci] at hat
  obtain ⟨r, h1, cell, q1, q2, q3, q4⟩ := hat
  have hr : r = (C, T, N) := Option.some.inj (h1.symm.trans hc)
  subst hr
  obtain ⟨hSl, hfc, kC, hkC, hkind⟩ := hK.1 ci _ hc
  obtain ⟨cf, kf, fi, f, hi, hsl⟩ := hSl k hk
  have hst := (u_facts hfc hkC (u_lays hts hin hk) hi).1
  have hlay := hts _ (hin _ (u_in_lay hk))
  unfold u_lay at hlay
  have fin : ∀ H' : Heap, H'[g.2.1 + a]? = some (cell.setSlot f.slot v) → H'.size = H.size → (∀ q, q ≠ g.2.1 + a → H'[q]? = H[q]?) → W p g.1 e R s m args below meth c H' (locs ++ [⟨g.2.1 + a, f.slot⟩]) cells slots Q (F0 m (pc + 3) ls rest) := by
    intro H' e1 e2 e3
    rw [hsl] at e1
    refine kk H' _ (ax_P_set hP hn' ho ha ?_ e2 e3) (hS0.put e2 e3 (Nat.le_add_right _ _))
    rw [ax_e_obj (by rw [hs']; exact hs) hci, hfl]
    exact ⟨_, hc, t_OB.to (V := updV (vp_V (ax_fl g h (ax_ft ci) a)) k v) ⟨_, e1, q2, q3, t_set q4 hap hk v⟩ (fun j _ => vp_updV_set (by rw [ax_fl_len]; exact hlen) v j)⟩
  rcases hfin with hfin | ⟨hfin, hini, hdecl⟩
  · rw [if_neg (by rw [hfin]; decide)] at hlay
    have h6 := u_store hfc hkC hkind hlay hi hd0 hn hfit
    exact W.putK hx hb (f := f) ⟨hown, hts _ hw, ⟨_, _, _, hi⟩, hst⟩ (by rw [q2]; exact h6) q1 q3 (by rw [hsl]; exact k2_hasslot (q4 k hk)) rfl rfl hd fin
  · rw [if_pos hfin] at hlay
    have hcf : m.cls = cf := by
      obtain ⟨_, _, c', _, _, _, -, -, hf', -, -, -, hown2, -⟩ := Cond.laysFinal_spec hlay
      have e1 : c' = cf := by have := hi.symm.trans hf'; simp at this; exact this.1.symm
      rw [hdecl] at hown2
      rw [← e1]; exact Option.some.inj (hown.symm.trans hown2)
    have h6 := u_fits hfc hkC hkind (Or.inr hlay) hi hd0 hn hfit
    exact W.putFinK hx hb hown (hts _ hw) hi hst hcf (hname.trans hini) (by rw [q2]; exact h6) q1 q3 (by rw [hsl]; exact k2_hasslot (q4 k hk)) rfl rfl hd fin
end
/-! fields -/
/-- what the tables say of field k of class ci -/
def ax_F (own : String) (index ci k t : Nat) : Prop := ci < 11 ∧ (ax_ft ci)[k]? = some t ∧ ∃ (C : String) (T : u_T) (N : Nat) (ty0 : Nat → FieldType), vwCl[ci]? = some (C, T, N) ∧ (∀ w ∈ u_ws C T N, w ∈ lw_gd) ∧ (∀ k, k < N → parseFieldDescriptor (T k).2.2.1 = some (ty0 k)) ∧ (∀ a, a < N → ∀ b, b < N → a ≠ b → (T a).2.1 ≠ (T b).2.1) ∧ k < N ∧ Cond.fieldLink own index (T k).1 (T k).2.1 (T k).2.2.1 ∈ lw_gd
def ao_gi (ci k : Nat) : ax_O := fun _ σ K => match σ with
  | (pc, L, st, h, u1, u2) => match st with
    | .ref a :: r => (ax_s h a).1 = ci ∧ K (pc + 3, L, .int (ax_i h a k) :: r, h, u1, u2)
    | _ => False
def ao_gl (ci k : Nat) : ax_O := fun _ σ K => match σ with
  | (pc, L, st, h, u1, u2) => match st with
    | .ref a :: r => (ax_s h a).1 = ci ∧ K (pc + 3, L, .long (ax_l h a k) :: r, h, u1, u2)
    | _ => False
def ao_gr (ci k : Nat) : ax_O := fun _ σ K => match σ with
  | (pc, L, st, h, u1, u2) => match st with
    | .ref a :: r => (ax_s h a).1 = ci ∧ ∃ b, ax_r h a k = some b ∧ K (pc + 3, L, .ref b :: r, h, u1, u2)
    | _ => False
theorem ax_getW {p : Program} {e : Env} {s : State} {m : MethodId} {args : Array Value} {below : List Frame} {meth : Method} {c : Code} {R : Room} {cells slots : Nat} {Q : State → Prop} {ls : Array Slot} {rest : List Value} {h : ax_H} {H : Heap} {locs : List Loc} {a ci index k t : Nat} {v : Value} (V : ax_V g cc nL ret own nm p s m args meth c) (hP : ax_P g h H) (hF : ax_F own index ci k t) (hs : (ax_s h a).1 = ci) (hd : decode cc pc = .ok (.getfield index, 3)) (hv : (ax_fl g h (ax_ft ci) a)[k]? = some v)
    (kk : W p g.1 e R s m args below meth c H locs cells slots Q (F0 m (pc + 3) ls (v :: rest))) : W p g.1 e R s m args below meth c H locs cells slots Q (F0 m pc ls (ax_v g (.ref a) :: rest)) := by
  obtain ⟨hci, ht, C, T, N, ty0, hc, hin, hty, hnm, hk, hw⟩ := hF
  obtain ⟨ha, hs, -⟩ := ax_s_lt hs (by omega)
  rw [ax_vr hP ha]
  exact va_get V.1 V.2.1 V.2.2.2.2.2.2.2.1 hin V.2.2.2.2.2.1 V.2.2.2.2.2.2.2.2.1 hP.1 a ((ax_w_get ha).trans (by rw [ax_e_obj hs hci])) hc k hk (V.2.2.2.2.2.2.2.1 _ hw) (fun _ h => h) hv hd kk
theorem ak_gi {ci k index : Nat} (hF : ax_F own index ci k 0) (hd : decode cc pc = .ok (.getfield index, 3)) : ax_ok g cc nL ret own nm d mc ms pc (ao_gi ci k) := by
  intro p e s m args below meth c V Ret L st h u1 u2 K ho hK H locs ls hP hS hl
  dsimp only [ao_gi] at ho
  split at ho
  · exact ax_getW V hP hF ho.1 hd (ax_fl_get hF.2.1) (hK _ ho.2 H locs ls hP hS hl)
  · exact ho.elim
theorem ak_gl {ci k index : Nat} (hF : ax_F own index ci k 1) (hd : decode cc pc = .ok (.getfield index, 3)) : ax_ok g cc nL ret own nm d mc ms pc (ao_gl ci k) := by
  intro p e s m args below meth c V Ret L st h u1 u2 K ho hK H locs ls hP hS hl
  dsimp only [ao_gl] at ho
  split at ho
  · exact ax_getW V hP hF ho.1 hd (ax_fl_get hF.2.1) (hK _ ho.2 H locs ls hP hS hl)
  · exact ho.elim
theorem ak_gr {ci k index : Nat} (hF : ax_F own index ci k 2) (hd : decode cc pc = .ok (.getfield index, 3)) : ax_ok g cc nL ret own nm d mc ms pc (ao_gr ci k) := by
  intro p e s m args below meth c V Ret L st h u1 u2 K ho hK H locs ls hP hS hl
  dsimp only [ao_gr] at ho
  split at ho
  · rename_i a r
    obtain ⟨ho1, b, hr, ho⟩ := ho
    exact ax_getW V hP hF ho1 hd ((ax_fl_get hF.2.1).trans (by rw [hr]; rfl)) (hK _ ho H locs ls hP hS hl)
  · exact ho.elim
def ao_pi (ci k : Nat) : ax_O := fun _ σ K => match σ with
  | (pc, L, st, h, u1, u2) => match st with
    | .int x :: .ref a :: r => (ax_s h a).1 = ci ∧ K (pc + 3, L, r, ax_pi h a k x, u1, u2)
    | _ => False
/-- a boolean field -/
def ao_pz (ci k : Nat) : ax_O := fun _ σ K => match σ with
  | (pc, L, st, h, u1, u2) => match st with
    | .int x :: .ref a :: r => (x = 0 ∨ x = 1) ∧ (ax_s h a).1 = ci ∧ K (pc + 3, L, r, ax_pi h a k x, u1, u2)
    | _ => False
def ao_pl (ci k : Nat) : ax_O := fun _ σ K => match σ with
  | (pc, L, st, h, u1, u2) => match st with
    | .long x :: .ref a :: r => (ax_s h a).1 = ci ∧ K (pc + 3, L, r, ax_pl h a k x, u1, u2)
    | _ => False
def ao_pr (ci k : Nat) : ax_O := fun _ σ K => match σ with
  | (pc, L, st, h, u1, u2) => match st with
    | .ref b :: .ref a :: r => (ax_s h a).1 = ci ∧ K (pc + 3, L, r, ax_pr h a k (some b), u1, u2)
    | .null :: .ref a :: r => (ax_s h a).1 = ci ∧ K (pc + 3, L, r, ax_pr h a k none, u1, u2)
    | _ => False
/-- the field may be written here -/
def ax_Fw (own nm : String) (ci k : Nat) (ty : FieldType) : Prop := ∀ (C : String) (T : u_T) (N : Nat), vwCl[ci]? = some (C, T, N) → ((T k).2.2.2 = false ∨ ((T k).2.2.2 = true ∧ nm = "<init>" ∧ (T k).1 = own)) ∧ parseFieldDescriptor (T k).2.2.1 = some ty
theorem ax_u_ee {α : Type} {f : Nat → Nat → α} {a k : Nat} {v : α} : ax_u f a k v a k = v := by rw [ax_u_eq]; exact if_pos rfl
theorem ax_u_en {α : Type} {f : Nat → Nat → α} {a k j : Nat} {v : α} (h : j ≠ k) : ax_u f a k v a j = f a j := by rw [ax_u_eq]; exact if_neg h
theorem ax_get_lt {ts : List Nat} {k t : Nat} (h : ts[k]? = some t) : k < ts.length := (List.getElem?_eq_some_iff.mp h).1
theorem ak_pi {ci k index : Nat} (hF : ax_F own index ci k 0) (hw : ax_Fw own nm ci k .int) (hd : decode cc pc = .ok (.putfield index, 3)) : ax_ok g cc nL ret own nm d mc ms pc (ao_pi ci k) := by
  intro p e s m args below meth c V Ret L st h u1 u2 K ho hK H locs ls hP hS hl
  dsimp only [ao_pi] at ho
  split at ho
  · rename_i x a r
    obtain ⟨hci, ht, C, T, N, ty0, hc, hin, hty, hnm, hk, hwl⟩ := hF
    obtain ⟨ha, hs, -⟩ := ax_s_lt ho.1 (by omega)
    show W _ _ _ _ _ _ _ _ _ _ _ _ _ _ _ (F0 m pc ls (Value.int x :: ax_v g (.ref a) :: r.map (ax_v g)))
    rw [ax_vr hP ha]
    refine ax_putW (h' := ax_pi h a k x) V hP hS ha hs hci hc hin hty hnm hk hwl (hw _ _ _ hc).1 (hw _ _ _ hc).2 rfl rfl (ax_get_lt ht) hd rfl rfl ?_ (fun b hb => ax_e_cong rfl (ax_u_ne hb) rfl rfl) (fun H1 locs1 hP1 hS1 => hK _ ho.2 H1 locs1 ls hP1 hS1 hl)
    refine ax_fl_set ht ?_ (fun j u hj _ => ?_)
    · show Value.int (ax_u h.2.2.1 a k x a k) = _
      rw [ax_u_ee]
    · show (if u = 0 then Value.int (ax_u h.2.2.1 a k x a j) else _) = _
      rw [ax_u_en hj]; rfl
  · exact ho.elim
theorem ak_pz {ci k index : Nat} (hF : ax_F own index ci k 0) (hw : ax_Fw own nm ci k .boolean) (hd : decode cc pc = .ok (.putfield index, 3)) : ax_ok g cc nL ret own nm d mc ms pc (ao_pz ci k) := by
  intro p e s m args below meth c V Ret L st h u1 u2 K ho hK H locs ls hP hS hl
  dsimp only [ao_pz] at ho
  split at ho
  · rename_i x a r
    obtain ⟨hb01, ho⟩ := ho
    obtain ⟨hci, ht, C, T, N, ty0, hc, hin, hty, hnm, hk, hwl⟩ := hF
    obtain ⟨ha, hs, -⟩ := ax_s_lt ho.1 (by omega)
    show W _ _ _ _ _ _ _ _ _ _ _ _ _ _ _ (F0 m pc ls (Value.int x :: ax_v g (.ref a) :: r.map (ax_v g)))
    rw [ax_vr hP ha]
    have hnr : narrow .boolean (.int x) = .int x := by rcases hb01 with rfl | rfl <;> rfl
    have hft : fits .boolean (.int x) = true := by rcases hb01 with rfl | rfl <;> rfl
    refine ax_putW (h' := ax_pi h a k x) V hP hS ha hs hci hc hin hty hnm hk hwl (hw _ _ _ hc).1 (hw _ _ _ hc).2 hnr hft (ax_get_lt ht) hd rfl rfl ?_ (fun b hb => ax_e_cong rfl (ax_u_ne hb) rfl rfl) (fun H1 locs1 hP1 hS1 => hK _ ho.2 H1 locs1 ls hP1 hS1 hl)
    refine ax_fl_set ht ?_ (fun j u hj _ => ?_)
    · show Value.int (ax_u h.2.2.1 a k x a k) = _
      rw [ax_u_ee]
    · show (if u = 0 then Value.int (ax_u h.2.2.1 a k x a j) else _) = _
      rw [ax_u_en hj]; rfl
  · exact ho.elim
theorem ak_pl {ci k index : Nat} (hF : ax_F own index ci k 1) (hw : ax_Fw own nm ci k .long) (hd : decode cc pc = .ok (.putfield index, 3)) : ax_ok g cc nL ret own nm d mc ms pc (ao_pl ci k) := by
  intro p e s m args below meth c V Ret L st h u1 u2 K ho hK H locs ls hP hS hl
  dsimp only [ao_pl] at ho
  split at ho
  · rename_i x a r
    obtain ⟨hci, ht, C, T, N, ty0, hc, hin, hty, hnm, hk, hwl⟩ := hF
    obtain ⟨ha, hs, -⟩ := ax_s_lt ho.1 (by omega)
    show W _ _ _ _ _ _ _ _ _ _ _ _ _ _ _ (F0 m pc ls (Value.long x :: ax_v g (.ref a) :: r.map (ax_v g)))
    rw [ax_vr hP ha]
    refine ax_putW (h' := ax_pl h a k x) V hP hS ha hs hci hc hin hty hnm hk hwl (hw _ _ _ hc).1 (hw _ _ _ hc).2 rfl rfl (ax_get_lt ht) hd rfl rfl ?_ (fun b hb => ax_e_cong rfl rfl (ax_u_ne hb) rfl) (fun H1 locs1 hP1 hS1 => hK _ ho.2 H1 locs1 ls hP1 hS1 hl)
    refine ax_fl_set ht ?_ (fun j u hj _ => ?_)
    · show Value.long (ax_u h.2.2.2.1 a k x a k) = _
      rw [ax_u_ee]
    · show (if u = 0 then _ else if u = 1 then Value.long (ax_u h.2.2.2.1 a k x a j) else _) = _
      rw [ax_u_en hj]; rfl
  · exact ho.elim
theorem ak_pr {ci k index : Nat} {ty : FieldType} (hF : ax_F own index ci k 2) (hty2 : ty.isReference = true) (hw : ax_Fw own nm ci k ty) (hd : decode cc pc = .ok (.putfield index, 3)) : ax_ok g cc nL ret own nm d mc ms pc (ao_pr ci k) := by
  intro p e s m args below meth c V Ret L st h u1 u2 K ho hK H locs ls hP hS hl
  dsimp only [ao_pr] at ho
  have nr : ∀ b : Nat, narrow ty (.ref b) = .ref b := fun b => by cases ty <;> first | rfl | cases hty2
  have fr : ∀ b : Nat, fits ty (.ref b) = true := fun b => by cases ty <;> first | rfl | cases hty2
  have nn : narrow ty .null = .null := by cases ty <;> first | rfl | cases hty2
  have fn : fits ty .null = true := by cases ty <;> first | rfl | cases hty2
  split at ho
  · rename_i b a r
    obtain ⟨hci, ht, C, T, N, ty0, hc, hin, hty, hnm, hk, hwl⟩ := hF
    obtain ⟨ha, hs, -⟩ := ax_s_lt ho.1 (by omega)
    show W _ _ _ _ _ _ _ _ _ _ _ _ _ _ _ (F0 m pc ls (Value.ref (ax_ad g b) :: ax_v g (.ref a) :: r.map (ax_v g)))
    rw [ax_vr hP ha]
    refine ax_putW (h' := ax_pr h a k (some b)) V hP hS ha hs hci hc hin hty hnm hk hwl (hw _ _ _ hc).1 (hw _ _ _ hc).2 (nr _) (fr _) (ax_get_lt ht) hd rfl rfl ?_ (fun b hb => ax_e_cong rfl rfl rfl (ax_u_ne hb)) (fun H1 locs1 hP1 hS1 => hK _ ho.2 H1 locs1 ls hP1 hS1 hl)
    refine ax_fl_set ht ?_ (fun j u hj _ => ?_)
    · show va_rf ((ax_u h.2.2.2.2 a k (some b) a k).map (ax_ad g)) = _
      rw [ax_u_ee]; rfl
    · show (if u = 0 then _ else if u = 1 then _ else va_rf ((ax_u h.2.2.2.2 a k (some b) a j).map (ax_ad g))) = _
      rw [ax_u_en hj]; rfl
  · rename_i a r
    obtain ⟨hci, ht, C, T, N, ty0, hc, hin, hty, hnm, hk, hwl⟩ := hF
    obtain ⟨ha, hs, -⟩ := ax_s_lt ho.1 (by omega)
    show W _ _ _ _ _ _ _ _ _ _ _ _ _ _ _ (F0 m pc ls (Value.null :: ax_v g (.ref a) :: r.map (ax_v g)))
    rw [ax_vr hP ha]
    refine ax_putW (h' := ax_pr h a k none) V hP hS ha hs hci hc hin hty hnm hk hwl (hw _ _ _ hc).1 (hw _ _ _ hc).2 nn fn (ax_get_lt ht) hd rfl rfl ?_ (fun b hb => ax_e_cong rfl rfl rfl (ax_u_ne hb)) (fun H1 locs1 hP1 hS1 => hK _ ho.2 H1 locs1 ls hP1 hS1 hl)
    refine ax_fl_set ht ?_ (fun j u hj _ => ?_)
    · show va_rf ((ax_u h.2.2.2.2 a k none a k).map (ax_ad g)) = _
      rw [ax_u_ee]; rfl
    · show (if u = 0 then _ else if u = 1 then _ else va_rf ((ax_u h.2.2.2.2 a k none a j).map (ax_ad g))) = _
      rw [ax_u_en hj]; rfl
  · exact ho.elim
end
end

section
section
variable {g : ax_G} {cc : ByteArray} {nL : Nat} {ret : Option FieldType} {own nm : String} {d mc ms pc : Nat}
theorem ax_good : ∀ w ∈ lw_gd, goodWord w = true := fun _ h => (List.mem_filter.mp h).2
theorem ax_gi {ws : List Cond} (h : ∀ w ∈ ws, w ∈ lw_gd) : GoodIn lw_gd ws := fun w hw => ⟨h w hw, good_of_word (ax_good w (h w hw))⟩
/-- how a contract begins -/
def ax_C (g : ax_G) (as : List Value) (h : ax_H) : Array Value → State → Prop := va_Pc (as.map (ax_v g)) (fun U => ax_K g U ∧ g.2.1 ≤ U.heap.size ∧ ax_Z g U U.heap ∧ ax_P g h U.heap)
/-- THE CONTRACT: from heap h with the arguments as, y returns, and Ret holds of answer and heap -/
def ax_M (g : ax_G) (d mc ms : Nat) (y : MethodName) (cc : ByteArray) (nL : Nat) (ret : Option FieldType) (as : List Value) (h : ax_H) (Ret : Option Value → ax_H → Prop) : Prop := Met g.1 y (.code y cc nL ret :: lw_gd) (ax_rm d mc ms) (ax_C g as h) (ax_Q g Ret) mc ms (ax_A g)
/-- a contract out of a walk of the abstract machine -/
theorem ax_meth {y : MethodName} {as : List Value} {h : ax_H} {Ret : Option Value → ax_H → Prop} {tbl : Nat → ax_O} (hy : plainName y.cls = true) (hlen : (lg_sl as).length ≤ nL) (hok : ∀ pc, ax_ok g cc nL ret y.cls y.name d mc ms pc (tbl pc)) (hw : ∀ A : ax_S → Prop, (∀ (σ : ax_S) (K : ax_S → Prop), tbl σ.1 Ret σ K → (∀ σ', K σ' → A σ') → A σ) → A (0, ax_en as nL, [], h, 0, 0)) : ax_M g d mc ms y cc nL ret as h Ret := by
  refine Met.ofW (cc := cc) (maxL := nL) (ret := ret) hy rfl ?_
  intro p e s m args below meth c s₁ B hml hv
  obtain ⟨rfl, hK, hbs, hZ, hP⟩ := hv
  have hts := atoms_spec (ws := .code y cc nL ret :: lw_gd) B.pre
  have hnm : meth.name = y.name := (name_of_methodNamed B.named B.method).1
  have V : ax_V g cc nL ret y.cls y.name p s m (as.map (ax_v g)).toArray meth c := ⟨B.exec, B.bytes, B.returns, B.notSynchronized, hml, findClass_of_methodNamed B.named, hnm, fun w hw => hts w (List.mem_cons_of_mem _ hw), hK, hbs, hZ⟩
  have key := hw (ax_W g nL d mc ms p e s m (as.map (ax_v g)).toArray below meth c Ret) (fun σ K ho hK => by
    obtain ⟨pc, L, st, h, u1, u2⟩ := σ
    exact hok pc p e s m _ below meth c V Ret L st h u1 u2 _ ho hK)
  have hsl : ∀ vs : List Value, (lg_sl (vs.map (ax_v g))).length = (lg_sl vs).length := by
    intro vs
    induction vs with
    | nil => rfl
    | cons v r ih =>
      unfold lg_sl at ih ⊢
      rw [List.map_cons, List.flatMap_cons, List.flatMap_cons, List.length_append, List.length_append, ih, ax_v_cat]
      split <;> rfl
  have hl := lv_entry (as.map (ax_v g)) (n := nL) (by rw [hsl]; exact hlen)
  rw [lg_entry_eq]
  refine key s.heap [] _ hP va_S.rf ⟨hl.1, hl.2.1, fun q hq => hl.2.2 q ?_⟩
  obtain ⟨j, w⟩ := q
  have hmap : ∀ (vs : List Value) (n : Nat), (ax_en vs n).map (Option.map (ax_v g)) = ax_en (vs.map (ax_v g)) n := by
    intro vs
    induction vs with
    | nil => intro n; simp [ax_en]
    | cons v r ih =>
      intro n
      rw [List.map_cons]
      unfold ax_en
      rw [ax_v_cat]
      split
      · simp [ih]
      · simp [ih]
  rw [show ((0, ax_en as nL, [], h, 0, 0) : ax_S).2.1 = ax_en as nL from rfl, hmap] at hq
  exact ax_en_mem _ _ _ _ _ hq
/-! returns -/
def ax_rb (mc ms u1 u2 : Nat) (X : Prop) : Prop := bif Nat.beq u1 0 && Nat.beq u2 0 then X else (u1 ≤ mc ∧ u2 ≤ ms) ∧ X
theorem ax_rb_use {mc ms u1 u2 : Nat} {X : Prop} (h : ax_rb mc ms u1 u2 X) : (u1 ≤ mc ∧ u2 ≤ ms) ∧ X := by
  unfold ax_rb at h
  cases h1 : Nat.beq u1 0 <;> cases h2 : Nat.beq u2 0 <;> rw [h1, h2] at h
  · exact h
  · exact h
  · exact h
  · rw [Nat.eq_of_beq_eq_true h1, Nat.eq_of_beq_eq_true h2]
    exact ⟨⟨Nat.zero_le _, Nat.zero_le _⟩, h⟩
def ao_iret (mc ms : Nat) : ax_O := fun Ret σ _ => match σ with
  | (pc, L, st, h, u1, u2) => match st with
    | [.int x] => ax_rb mc ms u1 u2 <| Ret (some (.int x)) h
    | _ => False
def ao_zret (mc ms : Nat) : ax_O := fun Ret σ _ => match σ with
  | (pc, L, st, h, u1, u2) => match st with
    | [.int x] => ax_rb mc ms u1 u2 <| (x = 0 ∨ x = 1) ∧ Ret (some (.int x)) h
    | _ => False
def ao_lret (mc ms : Nat) : ax_O := fun Ret σ _ => match σ with
  | (pc, L, st, h, u1, u2) => match st with
    | [.long x] => ax_rb mc ms u1 u2 <| Ret (some (.long x)) h
    | _ => False
def ao_aret (mc ms : Nat) : ax_O := fun Ret σ _ => match σ with
  | (pc, L, st, h, u1, u2) => match st with
    | [.ref x] => ax_rb mc ms u1 u2 <| Ret (some (.ref x)) h
    | [.null] => ax_rb mc ms u1 u2 <| Ret (some .null) h
    | _ => False
def ao_vret (mc ms : Nat) : ax_O := fun Ret σ _ => match σ with
  | (pc, L, st, h, u1, u2) => match st with
    | [] => ax_rb mc ms u1 u2 <| Ret none h
    | _ => False
theorem ax_qr {Ret : Option Value → ax_H → Prop} {s : State} {args : Array Value} {H : Heap} {locs : List Loc} {h : ax_H} {v : Option Value} (hP : ax_P g h H) (hS : va_S (ax_A g) s.heap H locs) (hR : Ret v h) : ∀ t : State, t.heap = H → s.WarmedH t.vm → ax_Q g Ret args s (.returned (v.map (ax_v g))) t := fun t ht _ => ⟨⟨v, h, rfl, hR, by rw [ht]; exact hP⟩, hS.F ht⟩
theorem ak_iret (hr : ret = some .int) (hd : decode cc pc = .ok (.ireturn, 1)) : ax_ok g cc nL ret own nm d mc ms pc (ao_iret mc ms) := by
  intro p e s m args below meth c V Ret L st h u1 u2 K ho hK H locs ls hP hS hl
  dsimp only [ao_iret] at ho
  split at ho
  · rename_i x
    have ho := ax_rb_use ho
    refine W.widen ho.1.1 ho.1.2 ?_
    exact W.iret V.1 V.2.1 (V.2.2.1.trans hr) (ax_qr (v := some (.int x)) hP hS ho.2) hS.2.2 hd V.2.2.2.1
  · exact ho.elim
theorem ak_zret (hr : ret = some .boolean) (hd : decode cc pc = .ok (.ireturn, 1)) : ax_ok g cc nL ret own nm d mc ms pc (ao_zret mc ms) := by
  intro p e s m args below meth c V Ret L st h u1 u2 K ho hK H locs ls hP hS hl
  dsimp only [ao_zret] at ho
  split at ho
  · rename_i x
    have ho := ax_rb_use ho
    refine W.widen ho.1.1 ho.1.2 ?_
    exact W.zret V.1 V.2.1 (V.2.2.1.trans hr) (by rcases ho.2.1 with rfl | rfl <;> rfl) (ax_qr (v := some (.int x)) hP hS ho.2.2) hS.2.2 hd V.2.2.2.1
  · exact ho.elim
theorem ak_lret (hr : ret = some .long) (hd : decode cc pc = .ok (.lreturn, 1)) : ax_ok g cc nL ret own nm d mc ms pc (ao_lret mc ms) := by
  intro p e s m args below meth c V Ret L st h u1 u2 K ho hK H locs ls hP hS hl
  dsimp only [ao_lret] at ho
  split at ho
  · rename_i x
    have ho := ax_rb_use ho
    refine W.widen ho.1.1 ho.1.2 ?_
    exact W.lret V.1 V.2.1 (V.2.2.1.trans hr) (ax_qr (v := some (.long x)) hP hS ho.2) hS.2.2 hd V.2.2.2.1
  · exact ho.elim
theorem ak_aret {rt : FieldType} (hr : ret = some rt) (hrt : (∃ n, rt = .object n) ∨ ∃ t, rt = .array t) (hd : decode cc pc = .ok (.areturn, 1)) : ax_ok g cc nL ret own nm d mc ms pc (ao_aret mc ms) := by
  intro p e s m args below meth c V Ret L st h u1 u2 K ho hK H locs ls hP hS hl
  dsimp only [ao_aret] at ho
  split at ho
  · rename_i x
    have ho := ax_rb_use ho
    refine W.widen ho.1.1 ho.1.2 ?_
    exact W.aret V.1 V.2.1 (V.2.2.1.trans hr) hrt (Or.inr ⟨_, rfl⟩) (ax_qr (v := some (.ref x)) hP hS ho.2) hS.2.2 hd V.2.2.2.1
  · have ho := ax_rb_use ho
    refine W.widen ho.1.1 ho.1.2 ?_
    exact W.aret V.1 V.2.1 (V.2.2.1.trans hr) hrt (Or.inl rfl) (ax_qr (v := some .null) hP hS ho.2) hS.2.2 hd V.2.2.2.1
  · exact ho.elim
theorem ak_vret (hr : ret = none) (hd : decode cc pc = .ok (.return_, 1)) : ax_ok g cc nL ret own nm d mc ms pc (ao_vret mc ms) := by
  intro p e s m args below meth c V Ret L st h u1 u2 K ho hK H locs ls hP hS hl
  dsimp only [ao_vret] at ho
  split at ho
  · have ho := ax_rb_use ho
    refine W.widen ho.1.1 ho.1.2 ?_
    exact W.vret V.1 V.2.1 (V.2.2.1.trans hr) (ax_qr (v := none) hP hS ho.2) hS.2.2 hd V.2.2.2.1
  · exact ho.elim
/-! calls -/
def ax_sp : Nat → List Value → List Value → Option (List Value × List Value)
  | 0, acc, st => some (acc, st)
  | n + 1, acc, v :: st => ax_sp n (v :: acc) st
  | _ + 1, _, [] => none
theorem ax_sp_eq : ∀ (n : Nat) (acc st as rest : List Value), ax_sp n acc st = some (as, rest) → ∃ bs, as = bs ++ acc ∧ bs.length = n ∧ st = bs.reverse ++ rest := by
  intro n
  induction n with
  | zero => intro acc st as rest h; cases h; exact ⟨[], rfl, rfl, rfl⟩
  | succ n ih =>
    intro acc st as rest h
    cases st with
    | nil => cases h
    | cons v st =>
      obtain ⟨bs, h1, h2, h3⟩ := ih (v :: acc) st as rest h
      refine ⟨bs ++ [v], by rw [h1]; simp, by simp [h2], by rw [h3]; simp⟩
/-- the answer of a call, by its kind: 0 none, 1 int, 2 long, 3 a reference -/
def ax_rk (rk : Nat) (v : Option Value) (k : List Value → Prop) : Prop := match rk with
  | 0 => v = none ∧ k []
  | 1 => ∃ r : Int32, v = some (.int r) ∧ k [.int r]
  | 2 => ∃ r : Int64, v = some (.long r) ∧ k [.long r]
  | _ => (∃ b : Nat, v = some (.ref b) ∧ k [.ref b]) ∨ (v = some .null ∧ k [.null])
theorem ax_rk_use {rk : Nat} {v : Option Value} {k : List Value → Prop} (h : ax_rk rk v k) : k v.toList := by
  unfold ax_rk at h
  split at h
  · obtain ⟨rfl, h⟩ := h; exact h
  · obtain ⟨r, rfl, h⟩ := h; exact h
  · obtain ⟨r, rfl, h⟩ := h; exact h
  · rcases h with ⟨b, rfl, h⟩ | ⟨rfl, h⟩ <;> exact h
/-- a call: y, its code, locals and type; n values are taken; ci: the receiver's class (99: a static method) -/
def ax_rc (ci : Nat) (as : List Value) (h : ax_H) (X : Prop) : Prop := bif Nat.beq ci 99 then X else match as with
  | .ref a :: _ => (ax_s h a).1 = ci ∧ X
  | _ => False
theorem ax_rc_use {ci : Nat} {as : List Value} {h : ax_H} {X : Prop} (hx : ax_rc ci as h X) : (ci = 99 ∨ ∃ a bs, as = .ref a :: bs ∧ (ax_s h a).1 = ci) ∧ X := by
  unfold ax_rc at hx
  cases hb : Nat.beq ci 99 with
  | true => rw [hb] at hx; exact ⟨Or.inl (Nat.eq_of_beq_eq_true hb), hx⟩
  | false =>
    rw [hb] at hx
    dsimp only [cond] at hx
    split at hx
    · rename_i a bs; exact ⟨Or.inr ⟨a, bs, rfl, hx.1⟩, hx.2⟩
    · exact hx.elim
def ao_inv (g : ax_G) (d' ci rk : Nat) (y : MethodName) (cc : ByteArray) (nL : Nat) (ret : Option FieldType) (n mc mx ms my : Nat) : ax_O := fun _ σ K => match σ with
  | (pc, L, st, h, u1, u2) => match ax_sp n [] st with
    | some (as, rest) => bif Nat.ble (rest.map Value.category).sum 8 && (Nat.ble (u1 + mc) mx && Nat.ble (u2 + ms) my) then ax_rc ci as h (ax_M g d' mc ms y cc nL ret as h (fun v h' => ax_rk rk v (fun vs => K (pc + 3, L, vs ++ rest, h', u1 + mc, u2 + ms)))) else False
    | none => False
theorem ax_bif3 {a b c : Nat} {d e f : Nat} {X : Prop} (h : bif Nat.ble a b && (Nat.ble c d && Nat.ble e f) then X else False) : (a ≤ b ∧ c ≤ d ∧ e ≤ f) ∧ X := by
  cases h1 : Nat.ble a b <;> cases h2 : Nat.ble c d <;> cases h3 : Nat.ble e f <;> rw [h1, h2, h3] at h <;> first | exact h.elim | exact ⟨⟨Nat.le_of_ble_eq_true h1, Nat.le_of_ble_eq_true h2, Nat.le_of_ble_eq_true h3⟩, h⟩
theorem ax_call {p : Program} {e : Env} {s : State} {m : MethodId} {args : Array Value} {below : List Frame} {meth : Method} {c : Code} {R : Room} {cells slots mc' ms' : Nat} {Q : State → Prop} {ls : Array Slot} {rest st0 : List Value} {H : Heap} {locs : List Loc} {Ret' : Option Value → ax_H → Prop} {a : Array Value} (hr : va_Run p g.1 e R s m args below meth c H locs cells slots mc' ms' (F0 m pc ls st0) rest (ax_Q g Ret' a) (ax_A g)) (hS : va_S (ax_A g) s.heap H locs)
    (kk : ∀ (v : Option Value) (h' : ax_H) (H1 : Heap) (locs1 : List Loc), Ret' v h' → ax_P g h' H1 → va_S (ax_A g) s.heap H1 locs1 → W p g.1 e R s m args below meth c H1 locs1 (cells + mc') (slots + ms') Q (F0 m (pc + 3) ls ((v.map (ax_v g)).toList ++ rest))) : W p g.1 e R s m args below meth c H locs cells slots Q (F0 m pc ls st0) := by
  intro T hT X
  obtain ⟨v, st₀, t, T', L, h0, X', hL, e1, e2, ⟨⟨v', h', hv, hp, hb⟩, hz, hk⟩, st⟩ := hr T hT X
  cases hv
  rw [h0] at hz hk
  obtain ⟨t2, a1, b1⟩ := kk v' h' T'.heap (locs ++ L) hp (by rw [e1]; exact hb)
    ⟨Nat.le_trans hS.1 (by rw [e1]; exact hz), fun q h1 h2 => by rw [e1, hk q (Nat.lt_of_lt_of_le h1 hS.1) h2]; exact hS.2.1 q h1 h2, fun q hq => by
      rcases List.mem_append.mp hq with h | h
      · exact hS.2.2 q h
      · exact hL q h⟩ T' rfl X'
  exact ⟨t2, st t2 a1, b1⟩
theorem ax_pre {y : MethodName} {cc' : ByteArray} {nL' : Nat} {ret' : Option FieldType} (hcode : Cond.code y cc' nL' ret' ∈ lw_gd) : ∀ w ∈ (Cond.code y cc' nL' ret' :: lw_gd), w ∈ lw_gd := fun w h => (List.mem_cons.mp h).elim (fun e => e ▸ hcode) id
theorem ax_PreS {p : Program} {s : State} {m : MethodId} {args : Array Value} {meth : Method} {c : Code} {h : ax_H} {H : Heap} {locs : List Loc} {as : List Value} (V : ax_V g cc nL ret own nm p s m args meth c) (hP : ax_P g h H) (hS : va_S (ax_A g) s.heap H locs) : FrameBlind (ax_C g as h) ∧ ∀ U : State, U.heap = H → s.WarmedH U.vm → ax_C g as h (as.map (ax_v g)).toArray U := by
  refine ⟨fun a U f mk q => ?_, fun U hU hW => ?_⟩
  · obtain ⟨q0, q1, q2, q3, q4⟩ := q
    exact ⟨q0, va_K.moved (u := U) (U := U.calling f mk a) (Vm.Alike.refl U.vm) q1, q2, ax_Z_moved (s := U) (U := U.calling f mk a) q3 (Vm.Alike.refl U.vm) (Or.inl rfl) (fun _ _ _ => rfl), q4⟩
  · obtain ⟨-, -, -, -, -, -, -, -, hK, hb, hZ⟩ := V
    exact ⟨rfl, va_K.moved hW.alike hK, by rw [hU]; exact Nat.le_trans hb hS.1, by rw [hU]; exact ax_Z_moved hZ hW.alike (Or.inr hW) (fun a ha hn => hS.2.1 a ha hn), by rw [hU]; exact hP⟩
theorem ax_rmL {d' d nL' : Nat} (h : d' < d) (hn : nL' ≤ 22) (mc' ms' mc ms : Nat) : (ax_rm d' mc' ms').frames + 1 ≤ (ax_rm d mc ms).frames ∧ 8 + (nL' + 11) + (ax_rm d' mc' ms').locals ≤ (ax_rm d mc ms).locals := by
  constructor
  · exact h
  · show 8 + (nL' + 11) + (41 * d' + 32) ≤ 41 * d + 32
    omega
theorem ax_sum (rest : List Value) : ((rest.map (ax_v g)).map fun v => v.category).sum = (rest.map Value.category).sum := by
  rw [List.map_map]
  congr 1
  exact List.map_congr_left (fun v _ => ax_v_cat g v)
/-- a static method -/
theorem ak_invS {d' rk : Nat} (hdl : d' < d) {y : MethodName} {cc' : ByteArray} {nL' n mc' ms' index : Nat} {ret' : Option FieldType} (hn' : nL' ≤ 22) (hl : Cond.methodLink own index y ∈ lw_gd) (hst : Cond.static y ∈ lw_gd) (hi : Cond.initialized y.cls ∈ lw_gd) (hcode : Cond.code y cc' nL' ret' ∈ lw_gd) (hdd : y.cls ≠ "java/lang/invoke/MethodHandle" ∧ y.cls ≠ "java/lang/invoke/VarHandle" ∧ (parseMethodDescriptor y.desc).map (fun d => d.parameters.length) = some n) (hd : decode cc pc = .ok (.invokestatic index, 3)) : ax_ok g cc nL ret own nm d mc ms pc (ao_inv g d' 99 rk y cc' nL' ret' n mc' mc ms' ms) := by
  intro p e s m args below meth c V Ret L st h u1 u2 K ho hK H locs ls hP hS hlr
  dsimp only [ao_inv] at ho
  split at ho
  · rename_i as rest hsp
    obtain ⟨⟨hrest, hc1, hc2⟩, ho⟩ := ax_bif3 ho
    obtain ⟨-, hM⟩ := ax_rc_use ho
    obtain ⟨bs, h1, h2, h3⟩ := ax_sp_eq _ _ _ _ _ hsp
    rw [List.append_nil] at h1
    subst h1
    refine ax_call (mc' := mc') (ms' := ms') (rest := rest.map (ax_v g)) (va_runS (As := as.map (ax_v g)) (n := n) ⟨V.1, V.2.1, V.2.2.2.2.1, V.2.2.2.2.2.1, V.2.2.2.2.2.2.2.1⟩ hM (va_cwS n V.2.2.2.2.2.2.2.1 (ax_gi ?_) rfl rfl rfl hdd (ax_rmL hdl hn' mc' ms' mc ms)) (ax_PreS V hP hS) rfl (by rw [List.length_map]; exact h2) hlr.1 (by show List.map (ax_v g) st = _; rw [h3, List.map_append, List.map_reverse]) (by show 0 + _ ≤ 8; rw [Nat.zero_add, ax_sum]; exact hrest) hd ⟨hc1, hc2⟩) hS ?_
    · intro w hw
      rcases List.mem_append.mp hw with hw | hw
      · simp only [List.mem_cons, List.not_mem_nil, or_false] at hw
        rcases hw with rfl | rfl | rfl
        · exact hl
        · exact hst
        · exact hi
      · exact ax_pre hcode w hw
    · intro v h' H1 locs1 hR hP1 hS1
      have := hK _ (ax_rk_use hR) H1 locs1 ls hP1 hS1 hlr
      cases v <;> exact this
  · exact ho.elim
end
end

section
section
variable {g : ax_G} {cc : ByteArray} {nL : Nat} {ret : Option FieldType} {own nm : String} {d mc ms pc : Nat}
/-- a method of an object -/
theorem ak_invV {d' rk : Nat} (hdl : d' < d) {y : MethodName} {cc' : ByteArray} {nL' n mc' ms' index ci N : Nat} {T : u_T} {ret' : Option FieldType} (hn' : nL' ≤ 22) (hci : ci < 11) (hcl : vwCl[ci]? = some (y.cls, T, N)) (hl : Cond.methodLink own index y ∈ lw_gd) (him : Cond.instanceMethod y ∈ lw_gd) (hsel : Cond.selects y.cls y y ∈ lw_gd) (hi : Cond.initialized y.cls ∈ lw_gd) (hcode : Cond.code y cc' nL' ret' ∈ lw_gd) (hdd : y.cls ≠ "java/lang/invoke/MethodHandle" ∧ y.cls ≠ "java/lang/invoke/VarHandle" ∧ (parseMethodDescriptor y.desc).map (fun d => d.parameters.length) = some n) (hd : decode cc pc = .ok (.invokevirtual index, 3)) : ax_ok g cc nL ret own nm d mc ms pc (ao_inv g d' ci rk y cc' nL' ret' (n + 1) mc' mc ms' ms) := by
  intro p e s m args below meth c V Ret L st h u1 u2 K ho hK H locs ls hP hS hlr
  dsimp only [ao_inv] at ho
  split at ho
  · rename_i as rest hsp
    obtain ⟨⟨hrest, hc1, hc2⟩, ho⟩ := ax_bif3 ho
    obtain ⟨hrc, hM⟩ := ax_rc_use ho
    obtain ⟨bs, h1, h2, h3⟩ := ax_sp_eq _ _ _ _ _ hsp
    rw [List.append_nil] at h1
    subst h1
    obtain ⟨a, As, rfl, hsa⟩ := hrc.resolve_left (by omega)
    obtain ⟨ha, hs, -⟩ := ax_s_lt hsa (by omega)
    have hpre := ax_PreS (as := .ref a :: As) V hP hS
    have hrecv := va_recv V.2.2.2.2.2.2.2.2.1 hP.1 hcl (q0 := a) (a := g.2.1 + a) (fs := ax_fl g h (ax_ft ci) a) ((ax_w_get ha).trans (by rw [ax_e_obj hs hci]))
    have hvr := ax_vr hP ha
    have hmap : (Value.ref a :: As).map (ax_v g) = .ref (g.2.1 + a) :: As.map (ax_v g) := by rw [List.map_cons, hvr]
    rw [hmap] at hpre
    refine ax_call (mc' := mc') (ms' := ms') (rest := rest.map (ax_v g)) (va_runV (C := y.cls) (b := g.2.1 + a) (As := As.map (ax_v g)) (n := n) ⟨V.1, V.2.1, V.2.2.2.2.1, V.2.2.2.2.2.1, V.2.2.2.2.2.2.2.1⟩ hM (cwV n V.2.2.2.2.2.2.2.1 (ax_gi ?_) rfl rfl rfl ⟨rfl, hdd⟩ (ax_rmL hdl hn' mc' ms' mc ms)) ⟨hpre.1, hrecv, hpre.2⟩ rfl (by rw [List.length_map]; simpa using h2) hlr.1 (by show List.map (ax_v g) st = _; rw [h3, List.map_append, List.map_reverse, hmap, List.reverse_cons, List.append_assoc]; rfl) (by show 0 + _ ≤ 8; rw [Nat.zero_add, ax_sum]; exact hrest) hd ⟨hc1, hc2⟩) hS ?_
    · intro w hw
      rcases List.mem_append.mp hw with hw | hw
      · simp only [List.mem_cons, List.not_mem_nil, or_false] at hw
        rcases hw with rfl | rfl | rfl | rfl
        · exact hl
        · exact him
        · exact hsel
        · exact hi
      · exact ax_pre hcode w hw
    · intro v h' H1 locs1 hR hP1 hS1
      have := hK _ (ax_rk_use hR) H1 locs1 ls hP1 hS1 hlr
      cases v <;> exact this
  · exact ho.elim
/-- a constructor of an object -/
theorem ak_invI {d' rk : Nat} (hdl : d' < d) {y : MethodName} {cc' : ByteArray} {nL' n mc' ms' index ci : Nat} (hn' : nL' ≤ 22) (hci : ci < 11) (hl : Cond.methodLink own index y ∈ lw_gd) (him : Cond.instanceMethod y ∈ lw_gd) (hi : Cond.initialized y.cls ∈ lw_gd) (hcode : Cond.code y cc' nL' none ∈ lw_gd) (hnm : y.name = "<init>") (hdd : y.cls ≠ "java/lang/invoke/MethodHandle" ∧ y.cls ≠ "java/lang/invoke/VarHandle" ∧ (parseMethodDescriptor y.desc).map (fun d => d.parameters.length) = some n) (hd : decode cc pc = .ok (.invokespecial index, 3)) : ax_ok g cc nL ret own nm d mc ms pc (ao_inv g d' ci rk y cc' nL' none (n + 1) mc' mc ms' ms) := by
  intro p e s m args below meth c V Ret L st h u1 u2 K ho hK H locs ls hP hS hlr
  dsimp only [ao_inv] at ho
  split at ho
  · rename_i as rest hsp
    obtain ⟨⟨hrest, hc1, hc2⟩, ho⟩ := ax_bif3 ho
    obtain ⟨hrc, hM⟩ := ax_rc_use ho
    obtain ⟨bs, h1, h2, h3⟩ := ax_sp_eq _ _ _ _ _ hsp
    rw [List.append_nil] at h1
    subst h1
    obtain ⟨a, As, rfl, hsa⟩ := hrc.resolve_left (by omega)
    obtain ⟨ha, hs, -⟩ := ax_s_lt hsa (by omega)
    have hpre := ax_PreS (as := .ref a :: As) V hP hS
    have hvr := ax_vr hP ha
    have hmap : (Value.ref a :: As).map (ax_v g) = .ref (g.2.1 + a) :: As.map (ax_v g) := by rw [List.map_cons, hvr]
    rw [hmap] at hpre
    have ht := V.2.2.2.2.2.2.2.1
    refine ax_call (mc' := mc') (ms' := ms') (rest := rest.map (ax_v g)) (va_runI (b := g.2.1 + a) (As := As.map (ax_v g)) (n := n) ⟨V.1, V.2.1, V.2.2.2.2.1, V.2.2.2.2.2.1, ht⟩ hM (cwI n ht (ax_gi (ax_pre hcode)) rfl rfl rfl (ht _ hi) (ht _ hl) (ht _ him) hnm hdd (ax_rmL hdl hn' mc' ms' mc ms)) hpre rfl (by rw [List.length_map]; simpa using h2) hlr.1 (by show List.map (ax_v g) st = _; rw [h3, List.map_append, List.map_reverse, hmap, List.reverse_cons, List.append_assoc]; rfl) (by show 0 + _ ≤ 8; rw [Nat.zero_add, ax_sum]; exact hrest) hd ⟨hc1, hc2⟩) hS ?_
    intro v h' H1 locs1 hR hP1 hS1
    have := hK _ (ax_rk_use hR) H1 locs1 ls hP1 hS1 hlr
    cases v <;> exact this
  · exact ho.elim
/-- a nest mate's private constructor -/
theorem ak_invIN {d' rk : Nat} (hdl : d' < d) {y : MethodName} {host : String} {cc' : ByteArray} {nL' n mc' ms' index ci : Nat} (hn' : nL' ≤ 22) (hci : ci < 11) (hl : (own, index, y, host) ∈ ax_nm) (him : Cond.instanceMethod y ∈ lw_gd) (hi : Cond.initialized y.cls ∈ lw_gd) (hcode : Cond.code y cc' nL' none ∈ lw_gd) (hnm : y.name = "<init>") (hdd : y.cls ≠ "java/lang/invoke/MethodHandle" ∧ y.cls ≠ "java/lang/invoke/VarHandle" ∧ (parseMethodDescriptor y.desc).map (fun d => d.parameters.length) = some n) (hd : decode cc pc = .ok (.invokespecial index, 3)) : ax_ok g cc nL ret own nm d mc ms pc (ao_inv g d' ci rk y cc' nL' none (n + 1) mc' mc ms' ms) := by
  intro p e s m args below meth c V Ret L st h u1 u2 K ho hK H locs ls hP hS hlr
  dsimp only [ao_inv] at ho
  split at ho
  · rename_i as rest hsp
    obtain ⟨⟨hrest, hc1, hc2⟩, ho⟩ := ax_bif3 ho
    obtain ⟨hrc, hM⟩ := ax_rc_use ho
    obtain ⟨bs, h1, h2, h3⟩ := ax_sp_eq _ _ _ _ _ hsp
    rw [List.append_nil] at h1
    subst h1
    obtain ⟨a, As, rfl, hsa⟩ := hrc.resolve_left (by omega)
    obtain ⟨ha, hs, -⟩ := ax_s_lt hsa (by omega)
    have hpre := ax_PreS (as := .ref a :: As) V hP hS
    have hvr := ax_vr hP ha
    have hmap : (Value.ref a :: As).map (ax_v g) = .ref (g.2.1 + a) :: As.map (ax_v g) := by rw [List.map_cons, hvr]
    rw [hmap] at hpre
    have ht := V.2.2.2.2.2.2.2.1
    have hnw : va_Nw (.methodLinkNest own index y host) s := V.2.2.2.2.2.2.2.2.2.2.2.2.2.2.2.2.2.1 _ hl
    refine ax_call (mc' := mc') (ms' := ms') (rest := rest.map (ax_v g)) (va_runIN (b := g.2.1 + a) (As := As.map (ax_v g)) (n := n) ⟨V.1, V.2.1, V.2.2.2.2.1, V.2.2.2.2.2.1, ht⟩ hM ⟨va_cnB n ht (ax_gi (ax_pre hcode)) rfl rfl rfl hnw (ht _ hi) hdd (ax_rmL hdl hn' mc' ms' mc ms), hnm, ht _ him⟩ hpre rfl (by rw [List.length_map]; simpa using h2) hlr.1 (by show List.map (ax_v g) st = _; rw [h3, List.map_append, List.map_reverse, hmap, List.reverse_cons, List.append_assoc]; rfl) (by show 0 + _ ≤ 8; rw [Nat.zero_add, ax_sum]; exact hrest) hd ⟨hc1, hc2⟩) hS ?_
    intro v h' H1 locs1 hR hP1 hS1
    have := hK _ (ax_rk_use hR) H1 locs1 ls hP1 hS1 hlr
    cases v <;> exact this
  · exact ho.elim
/-! arrays -/
def ao_iald : ax_O := fun _ σ K => match σ with
  | (pc, L, st, h, u1, u2) => match st with
    | .int i :: .ref a :: r => (ax_s h a).1 = 11 ∧ vp_in i (ax_s h a).2 ∧ K (pc + 1, L, .int (ax_i h a i.toNatClampNeg) :: r, h, u1, u2)
    | _ => False
def ao_bald (kd : Nat) : ax_O := fun _ σ K => match σ with
  | (pc, L, st, h, u1, u2) => match st with
    | .int i :: .ref a :: r => (ax_s h a).1 = kd ∧ vp_in i (ax_s h a).2 ∧ K (pc + 1, L, .int (ax_i h a i.toNatClampNeg) :: r, h, u1, u2)
    | _ => False
def ao_lald : ax_O := fun _ σ K => match σ with
  | (pc, L, st, h, u1, u2) => match st with
    | .int i :: .ref a :: r => (ax_s h a).1 = 14 ∧ vp_in i (ax_s h a).2 ∧ K (pc + 1, L, .long (ax_l h a i.toNatClampNeg) :: r, h, u1, u2)
    | _ => False
def ao_aald (kd : Nat) : ax_O := fun _ σ K => match σ with
  | (pc, L, st, h, u1, u2) => match st with
    | .int i :: .ref a :: r => (ax_s h a).1 = kd ∧ vp_in i (ax_s h a).2 ∧ (∀ b, ax_r h a i.toNatClampNeg = some b → K (pc + 1, L, .ref b :: r, h, u1, u2)) ∧ (ax_r h a i.toNatClampNeg = none → K (pc + 1, L, .null :: r, h, u1, u2))
    | _ => False
def ao_aaln (kd : Nat) : ax_O := fun _ σ K => match σ with
  | (pc, L, st, h, u1, u2) => match st with
    | .int i :: .ref a :: r => (ax_s h a).1 = kd ∧ vp_in i (ax_s h a).2 ∧ ∃ b, ax_r h a i.toNatClampNeg = some b ∧ K (pc + 1, L, .ref b :: r, h, u1, u2)
    | _ => False
def ao_alen (kd : Nat) : ax_O := fun _ σ K => match σ with
  | (pc, L, st, h, u1, u2) => match st with
    | .ref a :: r => (ax_s h a).1 = kd ∧ K (pc + 1, L, .int (Int32.ofNat (ax_s h a).2) :: r, h, u1, u2)
    | _ => False
theorem ax_arr {h : ax_H} {H : Heap} {a kd : Nat} (hP : ax_P g h H) (hs : (ax_s h a).1 = kd) (h1 : ¬ kd < 11) (h2 : kd < 99) : a < h.1 ∧ (ax_w g h)[a]? = some (g.2.1 + a, .inl (g.2.2.2.2 kd, (ax_s h a).2, ax_c g h a kd)) ∧ ax_v g (.ref a) = .ref (g.2.1 + a) ∧ (h.2.1 a).1 = kd ∧ (h.2.1 a).2 = (ax_s h a).2 := by
  obtain ⟨ha, hs', hl⟩ := ax_s_lt hs h2
  exact ⟨ha, (ax_w_get ha).trans (by rw [ax_e_arr hs' h1, hl]), ax_vr hP ha, hs', hl.symm⟩
theorem ak_iald (hd : decode cc pc = .ok (.iaload, 1)) : ax_ok g cc nL ret own nm d mc ms pc ao_iald := by
  intro p e s m args below meth c V Ret L st h u1 u2 K ho hK H locs ls hP hS hl
  dsimp only [ao_iald] at ho
  split at ho
  · rename_i i a r
    obtain ⟨ha, hw, hv, -, -⟩ := ax_arr hP ho.1 (by decide) (by decide)
    show W _ _ _ _ _ _ _ _ _ _ _ _ _ _ _ (F0 m pc ls (Value.int i :: ax_v g (.ref a) :: r.map (ax_v g)))
    rw [hv]
    exact va_iald V.1 V.2.1 V.2.2.2.2.2.2.2.2.1 hP.1 a 0 hw rfl ho.2.1 hd (hK _ ho.2.2 H locs ls hP hS hl)
  · exact ho.elim
theorem ak_bald (hd : decode cc pc = .ok (.baload, 1)) : ax_ok g cc nL ret own nm d mc ms pc (ao_bald 12) := by
  intro p e s m args below meth c V Ret L st h u1 u2 K ho hK H locs ls hP hS hl
  dsimp only [ao_bald] at ho
  split at ho
  · rename_i i a r
    obtain ⟨ha, hw, hv, -, -⟩ := ax_arr hP ho.1 (by decide) (by decide)
    show W _ _ _ _ _ _ _ _ _ _ _ _ _ _ _ (F0 m pc ls (Value.int i :: ax_v g (.ref a) :: r.map (ax_v g)))
    rw [hv]
    exact va_bald V.1 V.2.1 V.2.2.2.2.2.2.2.2.1 hP.1 a 1 hw rfl ho.2.1 hd (hK _ ho.2.2 H locs ls hP hS hl)
  · exact ho.elim
theorem ak_zald (hd : decode cc pc = .ok (.baload, 1)) : ax_ok g cc nL ret own nm d mc ms pc (ao_bald 13) := by
  intro p e s m args below meth c V Ret L st h u1 u2 K ho hK H locs ls hP hS hl
  dsimp only [ao_bald] at ho
  split at ho
  · rename_i i a r
    obtain ⟨ha, hw, hv, -, -⟩ := ax_arr hP ho.1 (by decide) (by decide)
    show W _ _ _ _ _ _ _ _ _ _ _ _ _ _ _ (F0 m pc ls (Value.int i :: ax_v g (.ref a) :: r.map (ax_v g)))
    rw [hv]
    exact va_zald V.1 V.2.1 V.2.2.2.2.2.2.2.2.1 hP.1 a 2 hw rfl ho.2.1 hd (hK _ ho.2.2 H locs ls hP hS hl)
  · exact ho.elim
theorem ak_lald (hd : decode cc pc = .ok (.laload, 1)) : ax_ok g cc nL ret own nm d mc ms pc ao_lald := by
  intro p e s m args below meth c V Ret L st h u1 u2 K ho hK H locs ls hP hS hl
  dsimp only [ao_lald] at ho
  split at ho
  · rename_i i a r
    obtain ⟨ha, hw, hv, -, -⟩ := ax_arr hP ho.1 (by decide) (by decide)
    show W _ _ _ _ _ _ _ _ _ _ _ _ _ _ _ (F0 m pc ls (Value.int i :: ax_v g (.ref a) :: r.map (ax_v g)))
    rw [hv]
    exact va_lald V.1 V.2.1 V.2.2.2.2.2.2.2.2.1 hP.1 a 3 hw rfl ho.2.1 hd (hK _ ho.2.2 H locs ls hP hS hl)
  · exact ho.elim
theorem ak_aald {kd t0 : Nat} {C : String} (h1 : ¬ kd < 15) (h2 : kd < 99) (ht : (ax_t g)[t0]? = some (g.2.2.2.2 kd, .object C)) (hd : decode cc pc = .ok (.aaload, 1)) : ax_ok g cc nL ret own nm d mc ms pc (ao_aald kd) := by
  intro p e s m args below meth c V Ret L st h u1 u2 K ho hK H locs ls hP hS hl
  dsimp only [ao_aald] at ho
  split at ho
  · rename_i i a r
    obtain ⟨ha, hw, hv, -, -⟩ := ax_arr hP ho.1 (by omega) h2
    show W _ _ _ _ _ _ _ _ _ _ _ _ _ _ _ (F0 m pc ls (Value.int i :: ax_v g (.ref a) :: r.map (ax_v g)))
    rw [hv]
    have hc : ax_c g h a kd = .inr (.inr (.inr (.inr (fun j => (ax_r h a j).map (ax_ad g))))) := by unfold ax_c; rw [if_neg (by omega), if_neg (by omega)]
    rw [hc] at hw
    refine va_aldq V.1 V.2.1 V.2.2.2.2.2.2.2.2.1 hP.1 a t0 hw ht ho.2.1 hd ?_
    cases hr : ax_r h a i.toNatClampNeg with
    | none => exact hK _ (ho.2.2.2 hr) H locs ls hP hS hl
    | some b => exact hK _ (ho.2.2.1 b hr) H locs ls hP hS hl
  · exact ho.elim
theorem ak_aaln {kd t0 : Nat} {C : String} (h1 : ¬ kd < 15) (h2 : kd < 99) (ht : (ax_t g)[t0]? = some (g.2.2.2.2 kd, .object C)) (hd : decode cc pc = .ok (.aaload, 1)) : ax_ok g cc nL ret own nm d mc ms pc (ao_aaln kd) := by
  intro p e s m args below meth c V Ret L st h u1 u2 K ho hK H locs ls hP hS hl
  dsimp only [ao_aaln] at ho
  split at ho
  · rename_i i a r
    obtain ⟨ho1, hin, b, hr, ho⟩ := ho
    refine ak_aald h1 h2 ht hd p e s m args below meth c V Ret L _ h u1 u2 K ?_ hK H locs ls hP hS hl
    exact ⟨ho1, hin, fun b' hb' => by rw [hr] at hb'; cases hb'; exact ho, fun hn => by rw [hr] at hn; cases hn⟩
  · exact ho.elim
theorem ak_alen {kd t0 : Nat} {ty : FieldType} (h1 : ¬ kd < 11) (h2 : kd < 99) (ht : (ax_t g)[t0]? = some (g.2.2.2.2 kd, ty)) (hd : decode cc pc = .ok (.arraylength, 1)) : ax_ok g cc nL ret own nm d mc ms pc (ao_alen kd) := by
  intro p e s m args below meth c V Ret L st h u1 u2 K ho hK H locs ls hP hS hl
  dsimp only [ao_alen] at ho
  split at ho
  · rename_i a r
    obtain ⟨ha, hw, hv, -, -⟩ := ax_arr hP ho.1 h1 h2
    show W _ _ _ _ _ _ _ _ _ _ _ _ _ _ _ (F0 m pc ls (ax_v g (.ref a) :: r.map (ax_v g)))
    rw [hv]
    exact va_alen V.1 V.2.1 V.2.2.2.2.2.2.2.2.1 hP.1 a t0 hw ht rfl hd (hK _ ho.2 H locs ls hP hS hl)
  · exact ho.elim
def ao_iast : ax_O := fun _ σ K => match σ with
  | (pc, L, st, h, u1, u2) => match st with
    | .int x :: .int i :: .ref a :: r => (ax_s h a).1 = 11 ∧ vp_in i (ax_s h a).2 ∧ K (pc + 1, L, r, ax_pi h a i.toNatClampNeg x, u1, u2)
    | _ => False
def ao_bast : ax_O := fun _ σ K => match σ with
  | (pc, L, st, h, u1, u2) => match st with
    | .int x :: .int i :: .ref a :: r => (ax_s h a).1 = 12 ∧ vp_in i (ax_s h a).2 ∧ K (pc + 1, L, r, ax_pi h a i.toNatClampNeg x.toInt8.toInt32, u1, u2)
    | _ => False
def ao_last : ax_O := fun _ σ K => match σ with
  | (pc, L, st, h, u1, u2) => match st with
    | .long x :: .int i :: .ref a :: r => (ax_s h a).1 = 14 ∧ vp_in i (ax_s h a).2 ∧ K (pc + 1, L, r, ax_pl h a i.toNatClampNeg x, u1, u2)
    | _ => False
theorem ax_in_size {i : Int32} {n : Nat} {cA : ClassId} {f : Nat → Value} (h : vp_in i n) : ¬ (i < 0 ∨ (arrV cA n f).slots.size ≤ i.toNatClampNeg) := by rw [arrV_size]; exact h
theorem ak_iast (hd : decode cc pc = .ok (.iastore, 1)) : ax_ok g cc nL ret own nm d mc ms pc ao_iast := by
  intro p e s m args below meth c V Ret L st h u1 u2 K ho hK H locs ls hP hS hl
  dsimp only [ao_iast] at ho
  split at ho
  · rename_i x i a r
    obtain ⟨ha, hw, hv, hk, hln⟩ := ax_arr hP ho.1 (by decide) (by decide)
    show W _ _ _ _ _ _ _ _ _ _ _ _ _ _ _ (F0 m pc ls (Value.int x :: .int i :: ax_v g (.ref a) :: r.map (ax_v g)))
    rw [hv]
    have hat : H[g.2.1 + a]? = some (arrV (g.2.2.2.2 11) (ax_s h a).2 (fun j => .int (ax_i h a j))) := hP.1 a _ hw
    refine W.iast V.1 V.2.1 hat ((V.2.2.2.2.2.2.2.2.1.2 0 _ rfl).1 _ _) (fun q => by cases q) (ax_in_size ho.2.1) rfl rfl hd fun H1 e1 z oq => ?_
    refine hK _ ho.2.2 H1 _ ls (ax_P_set hP rfl (fun b hb => ax_e_cong rfl (ax_u_ne hb) rfl rfl) ha ?_ z oq) (hS.put z oq (Nat.le_add_right _ _)) hl
    rw [ax_e_arr (h := ax_pi h a i.toNatClampNeg x) (kd := 11) hk (by decide)]
    show H1[g.2.1 + a]? = some (arrV (g.2.2.2.2 11) (h.2.1 a).2 (fun j => .int (ax_u h.2.2.1 a i.toNatClampNeg x a j)))
    rw [e1, arrV_store, hln, ax_u_eq]
    congr 2
    funext q
    by_cases hq : q = i.toNatClampNeg
    · subst hq
      simp [updV]
    · simp [updV, hq, ax_i]
  · exact ho.elim
theorem ak_bast (hd : decode cc pc = .ok (.bastore, 1)) : ax_ok g cc nL ret own nm d mc ms pc ao_bast := by
  intro p e s m args below meth c V Ret L st h u1 u2 K ho hK H locs ls hP hS hl
  dsimp only [ao_bast] at ho
  split at ho
  · rename_i x i a r
    obtain ⟨ha, hw, hv, hk, hln⟩ := ax_arr hP ho.1 (by decide) (by decide)
    show W _ _ _ _ _ _ _ _ _ _ _ _ _ _ _ (F0 m pc ls (Value.int x :: .int i :: ax_v g (.ref a) :: r.map (ax_v g)))
    rw [hv]
    have hat : H[g.2.1 + a]? = some (arrV (g.2.2.2.2 12) (ax_s h a).2 (fun j => .int (ax_i h a j))) := hP.1 a _ hw
    refine W.bast V.1 V.2.1 hat ((V.2.2.2.2.2.2.2.2.1.2 1 _ rfl).1 _ _) (fun q => by cases q) (ax_in_size ho.2.1) rfl rfl hd fun H1 e1 z oq => ?_
    refine hK _ ho.2.2 H1 _ ls (ax_P_set hP rfl (fun b hb => ax_e_cong rfl (ax_u_ne hb) rfl rfl) ha ?_ z oq) (hS.put z oq (Nat.le_add_right _ _)) hl
    rw [ax_e_arr (h := ax_pi h a i.toNatClampNeg x.toInt8.toInt32) (kd := 12) hk (by decide)]
    show H1[g.2.1 + a]? = some (arrV (g.2.2.2.2 12) (h.2.1 a).2 (fun j => .int (ax_u h.2.2.1 a i.toNatClampNeg x.toInt8.toInt32 a j)))
    rw [e1, arrV_store, hln, ax_u_eq]
    congr 2
    funext q
    by_cases hq : q = i.toNatClampNeg
    · subst hq
      simp [updV]
      rfl
    · simp [updV, hq, ax_i]
  · exact ho.elim
theorem ak_last (hd : decode cc pc = .ok (.lastore, 1)) : ax_ok g cc nL ret own nm d mc ms pc ao_last := by
  intro p e s m args below meth c V Ret L st h u1 u2 K ho hK H locs ls hP hS hl
  dsimp only [ao_last] at ho
  split at ho
  · rename_i x i a r
    obtain ⟨ha, hw, hv, hk, hln⟩ := ax_arr hP ho.1 (by decide) (by decide)
    show W _ _ _ _ _ _ _ _ _ _ _ _ _ _ _ (F0 m pc ls (Value.long x :: .int i :: ax_v g (.ref a) :: r.map (ax_v g)))
    rw [hv]
    have hat : H[g.2.1 + a]? = some (arrV (g.2.2.2.2 14) (ax_s h a).2 (fun j => .long (ax_l h a j))) := hP.1 a _ hw
    refine W.last V.1 V.2.1 hat ((V.2.2.2.2.2.2.2.2.1.2 3 _ rfl).1 _ _) (fun q => by cases q) (ax_in_size ho.2.1) rfl rfl hd fun H1 e1 z oq => ?_
    refine hK _ ho.2.2 H1 _ ls (ax_P_set hP rfl (fun b hb => ax_e_cong rfl rfl (ax_u_ne hb) rfl) ha ?_ z oq) (hS.put z oq (Nat.le_add_right _ _)) hl
    rw [ax_e_arr (h := ax_pl h a i.toNatClampNeg x) (kd := 14) hk (by decide)]
    show H1[g.2.1 + a]? = some (arrV (g.2.2.2.2 14) (h.2.1 a).2 (fun j => .long (ax_u h.2.2.2.1 a i.toNatClampNeg x a j)))
    rw [e1, arrV_store, hln, ax_u_eq]
    congr 2
    funext q
    by_cases hq : q = i.toNatClampNeg
    · subst hq
      simp [updV]
    · simp [updV, hq, ax_l]
  · exact ho.elim
/-! the tree of a code -/
def ax_nd (k : Nat) (a b : Nat → ax_O) : Nat → ax_O := fun pc => bif Nat.ble pc k then a pc else b pc
def ax_lf (k : Nat) (o : ax_O) : Nat → ax_O := fun pc => bif Nat.beq pc k then o else ao_no
theorem ax_nd_ok {k : Nat} {a b : Nat → ax_O} (ha : ∀ pc, ax_ok g cc nL ret own nm d mc ms pc (a pc)) (hb : ∀ pc, ax_ok g cc nL ret own nm d mc ms pc (b pc)) : ∀ pc, ax_ok g cc nL ret own nm d mc ms pc (ax_nd k a b pc) := by
  intro pc
  unfold ax_nd
  cases Nat.ble pc k
  · exact hb pc
  · exact ha pc
theorem ax_lf_ok {k : Nat} {o : ax_O} (ho : ax_ok g cc nL ret own nm d mc ms k o) : ∀ pc, ax_ok g cc nL ret own nm d mc ms pc (ax_lf k o pc) := by
  intro pc
  unfold ax_lf
  cases h : Nat.beq pc k
  · exact ak_no
  · rw [Nat.eq_of_beq_eq_true h]
    exact ho
/-- switches -/
def ax_sw (x : Int32) (K : Nat → Prop) (dflt : Nat) : List (Int32 × Nat) → Prop
  | [] => K dflt
  | (v, t) :: r => (x = v → K t) ∧ (¬ x = v → ax_sw x K dflt r)
def ao_sw (ts : List (Int32 × Nat)) (dflt : Nat) : ax_O := fun _ σ K => match σ with
  | (pc, L, st, h, u1, u2) => match st with
    | .int x :: r => ax_sw x (fun t => K (t, L, r, h, u1, u2)) dflt ts
    | _ => False
end
section
variable {g : ax_G} {cc : ByteArray} {nL : Nat} {ret : Option FieldType} {own nm : String} {d mc ms pc : Nat}
/-- the table of a switch out of the listing: each value with its target -/
def ax_swt (pc : Nat) (ps : List (Int × Int)) : List (Int32 × Nat) := ps.map fun q => (Int32.ofInt q.1, ((pc : Int) + q.2).toNat)
theorem ax_i32 {x : Int32} {z : Int} (h1 : -2147483648 ≤ z) (h2 : z < 2147483648) : x = Int32.ofInt z ↔ x.toInt = z := by
  constructor
  · intro h
    rw [h]
    exact Int32.toInt_ofInt_of_le h1 (by omega)
  · intro h
    rw [← h]
    exact (Int32.ofInt_toInt x).symm
theorem ak_table {dflt lo hi : Int} {offs : Array Int} {len dt : Nat} {ts : List (Int32 × Nat)} (hd : decode cc pc = .ok (.tableswitch dflt lo hi offs, len)) (h1 : -2147483648 ≤ lo) (h2 : hi < 2147483648) (hlen : (offs.size : Int) = hi - lo + 1) (hdt : (pc : Int) + dflt = (dt : Int)) (ht : ∀ k, k < offs.size → ∃ (off : Int) (tgt : Nat), offs[k]? = some off ∧ (pc : Int) + off = (tgt : Int) ∧ ts[k]? = some (Int32.ofInt (lo + k), tgt)) (htl : ts.length = offs.size) : ax_ok g cc nL ret own nm d mc ms pc (ao_sw ts dt) := by
  intro p e s m args below meth c V Ret L st h u1 u2 K ho hK H locs ls hP hS hl
  dsimp only [ao_sw] at ho
  split at ho
  · rename_i x r
    have key : ∀ (us : List (Int32 × Nat)) (Kt : Nat → Prop), ax_sw x Kt dt us → (∃ (j t : Nat), us[j]? = some (x, t) ∧ Kt t) ∨ ((∀ (j : Nat) (q : Int32 × Nat), us[j]? = some q → ¬ x = q.1) ∧ Kt dt) := by
      intro us Kt
      induction us with
      | nil => intro h; exact Or.inr ⟨fun j q hj => by simp at hj, h⟩
      | cons q us ih =>
        intro h
        obtain ⟨v, t⟩ := q
        by_cases hx : x = v
        · subst hx
          exact Or.inl ⟨0, t, rfl, h.1 rfl⟩
        · rcases ih (h.2 hx) with ⟨j, t', hj, hk⟩ | ⟨hn, hk⟩
          · exact Or.inl ⟨j + 1, t', by simpa using hj, hk⟩
          · refine Or.inr ⟨fun j q hj => ?_, hk⟩
            cases j with
            | zero => simp at hj; rw [← hj]; exact hx
            | succ j => exact hn j q (by simpa using hj)
    have hb : ∀ k, k < offs.size → -2147483648 ≤ lo + (k : Int) ∧ lo + (k : Int) < 2147483648 := fun k hk => by omega
    rcases key ts _ ho with ⟨j, t, hj, hk⟩ | ⟨hn, hk⟩
    · have hjl : j < offs.size := by rw [← htl]; exact (List.getElem?_eq_some_iff.mp hj).1
      obtain ⟨off, tgt, ho1, ho2, ho3⟩ := ht j hjl
      rw [hj] at ho3
      have he : x = Int32.ofInt (lo + j) ∧ t = tgt := by
        have := Option.some.inj ho3
        exact ⟨congrArg Prod.fst this, congrArg Prod.snd this⟩
      have hx := (ax_i32 (hb j hjl).1 (hb j hjl).2).mp he.1
      refine lv_tableIn (off := off) (tgt := t) V.1 V.2.1 hd (by omega) (by omega) ?_ (by rw [he.2]; exact ho2) (hK _ hk H locs ls hP hS hl)
      rw [hx, show (lo + (j : Int) - lo).toNat = j by omega]
      exact ho1
    · refine lv_tableOut V.1 V.2.1 hd ?_ hdt (hK _ hk H locs ls hP hS hl)
      by_cases h3 : x.toInt < lo
      · exact Or.inl h3
      · by_cases h4 : hi < x.toInt
        · exact Or.inr h4
        · exfalso
          have hkl : (x.toInt - lo).toNat < offs.size := by omega
          obtain ⟨off, tgt, -, -, ho3⟩ := ht _ hkl
          refine hn _ _ ho3 ((ax_i32 (hb _ hkl).1 (hb _ hkl).2).mpr ?_)
          omega
  · exact ho.elim
end
section
variable {g : ax_G} {cc : ByteArray} {nL : Nat} {ret : Option FieldType} {own nm : String} {d mc ms pc : Nat}
def ax_swc (pc : Nat) (lo : Int) (offs : Array Int) (ts : List (Int32 × Nat)) : Bool := (List.range offs.size).all fun k => match offs[k]?, ts[k]? with
  | some off, some q => decide (q.1 = Int32.ofInt (lo + (k : Int))) && decide ((pc : Int) + off = (q.2 : Int))
  | _, _ => false
theorem ak_tsw {dflt lo hi : Int} {offs : Array Int} {len dt : Nat} {ts : List (Int32 × Nat)} (hd : decode cc pc = .ok (.tableswitch dflt lo hi offs, len)) (h1 : -2147483648 ≤ lo) (h2 : hi < 2147483648) (hlen : (offs.size : Int) = hi - lo + 1) (hdt : (pc : Int) + dflt = (dt : Int)) (ht : ax_swc pc lo offs ts = true) (htl : ts.length = offs.size) : ax_ok g cc nL ret own nm d mc ms pc (ao_sw ts dt) := by
  refine ak_table hd h1 h2 hlen hdt (fun k hk => ?_) htl
  have := List.all_eq_true.mp ht k (List.mem_range.mpr hk)
  split at this
  · rename_i off q h3 h4
    simp only [Bool.and_eq_true, decide_eq_true_eq] at this
    refine ⟨off, q.2, h3, this.2, ?_⟩
    rw [h4, ← this.1]
  · cases this
theorem ax_sw_off {x : Int32} {Kt : Nat → Prop} {dt : Nat} {dflt : Int} (hdt : (pc : Int) + dflt = (dt : Int)) : ∀ (ps : List (Int × Int)) (ts : List (Int32 × Nat)), ts.length = ps.length → ((ps.zip ts).all fun q => decide (q.2.1.toInt = q.1.1) && decide ((pc : Int) + q.1.2 = (q.2.2 : Int))) = true → ax_sw x Kt dt ts → ∃ (off : Int) (tgt : Nat), Op.lookupswitch.offset ps dflt x.toInt = off ∧ (pc : Int) + off = (tgt : Int) ∧ Kt tgt := by
  intro ps
  induction ps with
  | nil =>
    intro ts hl _ h
    cases ts with
    | nil => exact ⟨dflt, dt, rfl, hdt, h⟩
    | cons _ _ => cases hl
  | cons q ps ih =>
    intro ts hl hz h
    cases ts with
    | nil => cases hl
    | cons t ts =>
      obtain ⟨a, o⟩ := q
      obtain ⟨v, tg⟩ := t
      simp only [List.zip_cons_cons, List.all_cons, Bool.and_eq_true, decide_eq_true_eq] at hz
      by_cases hx : x = v
      · subst hx
        refine ⟨o, tg, ?_, hz.1.2, h.1 rfl⟩
        rw [Op.lookupswitch.offset_cons, if_pos hz.1.1.symm]
      · rw [lv_osw hx hz.1.1]
        exact ih ts (by simpa using hl) hz.2 (h.2 hx)
theorem ak_look {dflt : Int} {ps : Array (Int × Int)} {len dt : Nat} {ts : List (Int32 × Nat)} (hd : decode cc pc = .ok (.lookupswitch dflt ps, len)) (hp : (ps.toList.zip (ps.toList.drop 1)).all (fun (a, next) => a.1 < next.1) = true) (hdt : (pc : Int) + dflt = (dt : Int)) (htl : ts.length = ps.toList.length) (ht : ((ps.toList.zip ts).all fun q => decide (q.2.1.toInt = q.1.1) && decide ((pc : Int) + q.1.2 = (q.2.2 : Int))) = true) : ax_ok g cc nL ret own nm d mc ms pc (ao_sw ts dt) := by
  intro p e s m args below meth c V Ret L st h u1 u2 K ho hK H locs ls hP hS hl
  dsimp only [ao_sw] at ho
  split at ho
  · rename_i x r
    obtain ⟨off, tgt, h1, h2, h3⟩ := ax_sw_off hdt _ _ htl ht ho
    exact lv_lookup V.1 V.2.1 hd hp h1 h2 (hK _ h3 H locs ls hP hS hl)
  · exact ho.elim
/-- many steps at once: from σ to the next places that 'cut' names -/
def ax_run (tbl : Nat → ax_O) (Ret : Option Value → ax_H → Prop) (A : ax_S → Prop) (cut : Nat → Bool) : Nat → ax_S → Prop
  | 0, σ => A σ
  | n + 1, σ => bif cut σ.1 then A σ else tbl σ.1 Ret σ (ax_run tbl Ret A cut n)
def ax_HA (tbl : Nat → ax_O) (Ret : Option Value → ax_H → Prop) (A : ax_S → Prop) : Prop := ∀ (σ : ax_S) (K : ax_S → Prop), tbl σ.1 Ret σ K → (∀ σ', K σ' → A σ') → A σ
theorem ax_go {tbl : Nat → ax_O} {Ret : Option Value → ax_H → Prop} {A : ax_S → Prop} (hA : ax_HA tbl Ret A) (cut : Nat → Bool) : ∀ (n : Nat) (σ : ax_S), ax_run tbl Ret A cut n σ → A σ := by
  intro n
  induction n with
  | zero => intro σ h; exact h
  | succ n ih =>
    intro σ h
    unfold ax_run at h
    cases hc : cut σ.1 with
    | true => rw [hc] at h; exact h
    | false => rw [hc] at h; exact hA σ _ h ih
theorem ax_go1 {tbl : Nat → ax_O} {Ret : Option Value → ax_H → Prop} {A : ax_S → Prop} (hA : ax_HA tbl Ret A) (cut : Nat → Bool) (n : Nat) (σ : ax_S) (h : tbl σ.1 Ret σ (ax_run tbl Ret A cut n)) : A σ := hA σ _ h (ax_go hA cut n)
end
end

section
section
variable {g : ax_G} {cc : ByteArray} {nL : Nat} {ret : Option FieldType} {own nm : String} {d mc ms pc : Nat}
def ao_obj : ax_O := fun _ σ K => match σ with
  | (pc, L, st, h, u1, u2) => match st with
    | .ref _ :: r => (r.map Value.category).sum ≤ 8 ∧ K (pc + 3, L, r, h, u1, u2)
    | _ => False
theorem ak_obj {index : Nat} (hd1 : 0 < d) (hl : Cond.methodLink own index Lib.objectInit ∈ lw_gd) (hi : Cond.instanceMethod Lib.objectInit ∈ lw_gd) (hc : Cond.code Lib.objectInit ⟨#[0xb1]⟩ 1 none ∈ lw_gd) (hd : decode cc pc = .ok (.invokespecial index, 3)) : ax_ok g cc nL ret own nm d mc ms pc ao_obj := by
  intro p e s m args below meth c V Ret L st h u1 u2 K ho hK H locs ls hP hS hlr
  dsimp only [ao_obj] at ho
  split at ho
  · have ht := V.2.2.2.2.2.2.2.1
    refine W.objInit V.1 V.2.1 V.2.2.2.2.2.1 (ht _ hl) (ht _ hi) (ht _ hc) rfl (hlr.1.trans V.2.2.2.2.1.symm) rfl hd hd1 ?_ (hK _ ho.2 H locs ls hP hS hlr)
    show 0 + _ + 12 ≤ 41 * d + 32
    rw [Nat.zero_add, ax_sum]
    have := ho.1
    omega
  · exact ho.elim
/-- the world with one cell more -/
theorem ax_P_new {h : ax_H} {H H1 : Heap} {kd ln : Nat} (hP : ax_P g h H) (hx : va_at g.2.2.2.1 vwCl (g.2.1 + h.1, ax_e g (ax_nw h kd ln) h.1) H1) (z : H1.size = H.size + 1) (oq : ∀ q : Nat, q < H.size → H1[q]? = H[q]?) (hn : h.1 + 1 < 1000000) : ax_P g (ax_nw h kd ln) H1 := by
  have hold : ∀ b, b < h.1 → ax_e g (ax_nw h kd ln) b = ax_e g h b := fun b hb => ax_e_cong (if_neg (Nat.ne_of_lt hb)) (if_neg (Nat.ne_of_lt hb)) (if_neg (Nat.ne_of_lt hb)) (if_neg (Nat.ne_of_lt hb))
  refine ⟨fun k q hk => ?_, by rw [z, hP.2.1]; rfl, hn⟩
  by_cases hk1 : k < h.1
  · rw [ax_w_get (Nat.lt_succ_of_lt hk1)] at hk
    cases hk
    rw [hold k hk1]
    exact (ax_at hP hk1).kept (oq _ (by rw [hP.2.1]; omega))
  · have hlt : k < h.1 + 1 := by
      have := (List.getElem?_eq_some_iff.mp hk).1
      unfold ax_w at this
      rw [List.length_map, List.length_range] at this
      exact this
    have : k = h.1 := by omega
    subst this
    rw [ax_w_get (h := ax_nw h kd ln) hlt] at hk
    cases hk
    exact hx
theorem ax_S_new {s : State} {H H1 : Heap} {locs : List Loc} (hS : va_S (ax_A g) s.heap H locs) (z : H1.size = H.size + 1) (oq : ∀ q : Nat, q < H.size → H1[q]? = H[q]?) : va_S (ax_A g) s.heap H1 locs := ⟨Nat.le_trans hS.1 (by omega), fun x h1 h2 => (oq x (Nat.lt_of_lt_of_le h1 hS.1)).trans (hS.2.1 x h1 h2), hS.2.2⟩
theorem ax_vn {h : ax_H} (hn : h.1 + 1 < 1000000) : ax_v g (.ref h.1) = .ref (g.2.1 + h.1) := by
  show Value.ref (ax_ad g h.1) = _
  rw [ax_ad_lt (by omega)]
/-- a new object; N: its slots -/
def ao_new (ci N mc ms : Nat) : ax_O := fun _ σ K => match σ with
  | (pc, L, st, h, u1, u2) => (h.1 + 1 < 1000000 ∧ u1 + 1 ≤ mc ∧ u2 + N ≤ ms) ∧ K (pc + 3, L, .ref h.1 :: st, ax_nw h ci 0, u1 + 1, u2 + N)
theorem ak_new {ci N index : Nat} {C : String} {T : u_T} {ty : Nat → FieldType} (hci : ci < 11) (hc : vwCl[ci]? = some (C, T, N)) (hin : ∀ w ∈ u_ws C T N, w ∈ lw_gd) (hty : ∀ k, k < N → parseFieldDescriptor (T k).2.2.1 = some (ty k)) (hdv : ∀ j, j < N → defaultValue (ty j) = vp_V ((ax_ft ci).map fun t => if t = 0 then .int 0 else if t = 1 then .long 0 else .null) j) (hcl : Cond.classLink own index C ∈ lw_gd) (hinst : Cond.instantiable C N ∈ lw_gd) (hini : Cond.initialized C ∈ lw_gd) (hd : decode cc pc = .ok (.new index, 3)) : ax_ok g cc nL ret own nm d mc ms pc (ao_new ci N mc ms) := by
  intro p e s m args below meth c V Ret L st h u1 u2 K ho hK H locs ls hP hS hlr
  dsimp only [ao_new] at ho
  obtain ⟨⟨h0, h1, h2⟩, ho⟩ := ho
  have ht := V.2.2.2.2.2.2.2.1
  have hKn := V.2.2.2.2.2.2.2.2.1.1 ci _ hc
  refine W.newcK V.1 V.2.1 V.2.2.2.2.2.1 (ht _ hcl) (ht _ hinst) (ht _ hini) rfl hd h1 h2 hKn.2.1 rfl fun H1 kC hkC e1 z1 o1 => ?_
  have hfl : ax_fl g (ax_nw h ci 0) (ax_ft ci) h.1 = (ax_ft ci).map fun t => if t = 0 then .int 0 else if t = 1 then .long 0 else .null := by
    apply List.ext_getElem?
    intro k
    cases hk : (ax_ft ci)[k]? with
    | none =>
      rw [List.getElem?_map, hk, List.getElem?_eq_none_iff.mpr (by rw [ax_fl_len]; exact List.getElem?_eq_none_iff.mp hk)]
      rfl
    | some t =>
      rw [ax_fl_get hk, List.getElem?_map, hk]
      show some _ = some _
      have e1 : ax_i (ax_nw h ci 0) h.1 k = 0 := by show (if h.1 = h.1 then (fun _ => (0 : Int32)) else _) k = 0; rw [if_pos rfl]
      have e2 : ax_l (ax_nw h ci 0) h.1 k = 0 := by show (if h.1 = h.1 then (fun _ => (0 : Int64)) else _) k = 0; rw [if_pos rfl]
      have e3 : ax_r (ax_nw h ci 0) h.1 k = none := by show (if h.1 = h.1 then (fun _ => (none : Option Nat)) else _) k = none; rw [if_pos rfl]
      rw [e1, e2, e3]
      rfl
  have hx : va_at g.2.2.2.1 vwCl (g.2.1 + h.1, ax_e g (ax_nw h ci 0) h.1) H1 := by
    rw [ax_e_obj (h := ax_nw h ci 0) (ci := ci) (by show (if h.1 = h.1 then (ci, 0) else _).1 = ci; rw [if_pos rfl]) hci, hfl]
    rw [hP.2.1] at e1
    exact ⟨_, hc, (u_born ty ht hin hKn hkC e1 hty).to hdv⟩
  have := hK _ ho H1 locs ls (ax_P_new hP hx z1 o1 h0) (ax_S_new hS z1 o1) hlr
  have e : ((Value.ref h.1) :: st).map (ax_v g) = .ref H.size :: st.map (ax_v g) := by rw [List.map_cons, ax_vn h0, hP.2.1]
  rw [show ((pc + 3, L, Value.ref h.1 :: st, ax_nw h ci 0, u1 + 1, u2 + N) : ax_S).2.2.1.map (ax_v g) = .ref H.size :: st.map (ax_v g) from e] at this
  exact this
/-- a new array of numbers -/
def ao_newa (kd bt mc ms : Nat) : ax_O := fun _ σ K => match σ with
  | (pc, L, st, h, u1, u2) => match st with
    | .int n :: r => (¬ n < 0) ∧ (h.1 + 1 < 1000000 ∧ u1 + 1 ≤ mc ∧ u2 + n.toNatClampNeg ≤ ms ∧ n.toNatClampNeg * bt ≤ 536870912) ∧ K (pc + 2, L, .ref h.1 :: r, ax_nw h kd n.toNatClampNeg, u1 + 1, u2 + n.toNatClampNeg)
    | _ => False
theorem ax_e_new {h : ax_H} {kd ln : Nat} (hk : ¬ kd < 11) : ax_e g (ax_nw h kd ln) h.1 = .inl (g.2.2.2.2 kd, ln, if kd < 14 then .inl (fun _ => 0) else if kd = 14 then .inr (.inl (fun _ => 0)) else .inr (.inr (.inr (.inr (fun _ => none))))) := by
  have e0 : (ax_nw h kd ln).2.1 h.1 = (kd, ln) := if_pos rfl
  rw [ax_e_arr (kd := kd) (by rw [e0]) hk, e0]
  unfold ax_c
  have e1 : ax_i (ax_nw h kd ln) h.1 = fun _ => 0 := by show (if h.1 = h.1 then (fun _ => (0 : Int32)) else _) = _; rw [if_pos rfl]
  have e2 : ax_l (ax_nw h kd ln) h.1 = fun _ => 0 := by show (if h.1 = h.1 then (fun _ => (0 : Int64)) else _) = _; rw [if_pos rfl]
  have e3 : ax_r (ax_nw h kd ln) h.1 = fun _ => none := by show (if h.1 = h.1 then (fun _ => (none : Option Nat)) else _) = _; rw [if_pos rfl]
  rw [e1, e2, e3]
  rfl
theorem ak_newa {kd t0 bt : Nat} {atype : ArrayType} {ty : FieldType} (hk : ¬ kd < 11) (hk2 : kd < 15) (hty : newarray.typeOf atype = ty) (hbt : componentBytes ty = bt) (hno : ∀ C, ty ≠ .object C) (ht0 : (ax_t g)[t0]? = some (g.2.2.2.2 kd, ty)) (hdf : ∀ cA n, vp_cell cA (n, if kd < 14 then .inl (fun _ => 0) else if kd = 14 then .inr (.inl (fun _ => 0)) else .inr (.inr (.inr (.inr (fun _ => none))))) = arrV cA n (fun _ => defaultValue ty)) (hw : Cond.arrayClass ty ∈ lw_gd) (hd : decode cc pc = .ok (.newarray atype, 2)) : ax_ok g cc nL ret own nm d mc ms pc (ao_newa kd bt mc ms) := by
  intro p e s m args below meth c V Ret L st h u1 u2 K ho hK H locs ls hP hS hlr
  dsimp only [ao_newa] at ho
  split at ho
  · rename_i n r
    obtain ⟨hn, ⟨h0, h1, h2, h3⟩, ho⟩ := ho
    have ht := V.2.2.2.2.2.2.2.1
    subst hty
    subst hbt
    refine va_newaK V.1 V.2.1 (ht _ hw) rfl hd rfl hn rfl h3 h1 h2 rfl fun H1 cA e1 z1 o1 _ hNm => ?_
    have hcA : g.2.2.2.2 kd = cA := by
      have hra := (V.2.2.2.2.2.2.2.2.1.2 t0 _ ht0).2
      have hra' : s.vm.findClass ("[" ++ (newarray.typeOf atype).toString) = some (g.2.2.2.2 kd) := by
        revert hra
        cases atype <;> exact fun q => q
      exact Option.some.inj (hra'.symm.trans hNm)
    have hx : va_at g.2.2.2.1 vwCl (g.2.1 + h.1, ax_e g (ax_nw h kd n.toNatClampNeg) h.1) H1 := by
      rw [ax_e_new hk, hcA]
      show H1[g.2.1 + h.1]? = some (vp_cell cA _)
      rw [hdf, ← hP.2.1]
      exact e1
    have := hK _ ho H1 locs ls (ax_P_new hP hx z1 o1 h0) (ax_S_new hS z1 o1) hlr
    have e : ((Value.ref h.1) :: r).map (ax_v g) = .ref H.size :: r.map (ax_v g) := by rw [List.map_cons, ax_vn h0, hP.2.1]
    rw [show ((pc + 2, L, Value.ref h.1 :: r, ax_nw h kd n.toNatClampNeg, u1 + 1, u2 + n.toNatClampNeg) : ax_S).2.2.1.map (ax_v g) = .ref H.size :: r.map (ax_v g) from e] at this
    exact this
  · exact ho.elim
/-- a new array of references -/
def ao_newr (kd mc ms : Nat) : ax_O := fun _ σ K => match σ with
  | (pc, L, st, h, u1, u2) => match st with
    | .int n :: r => (¬ n < 0) ∧ (h.1 + 1 < 1000000 ∧ u1 + 1 ≤ mc ∧ u2 + n.toNatClampNeg ≤ ms ∧ n.toNatClampNeg * 4 ≤ 536870912) ∧ K (pc + 3, L, .ref h.1 :: r, ax_nw h kd n.toNatClampNeg, u1 + 1, u2 + n.toNatClampNeg)
    | _ => False
theorem ak_newr {kd t0 index : Nat} {C : String} (hk : ¬ kd < 15) (ht0 : (ax_t g)[t0]? = some (g.2.2.2.2 kd, .object C)) (hcl : Cond.classLink own index C ∈ lw_gd) (hw : C ∈ ax_ao) (hd : decode cc pc = .ok (.anewarray index, 3)) : ax_ok g cc nL ret own nm d mc ms pc (ao_newr kd mc ms) := by
  intro p e s m args below meth c V Ret L st h u1 u2 K ho hK H locs ls hP hS hlr
  dsimp only [ao_newr] at ho
  split at ho
  · rename_i n r
    obtain ⟨hn, ⟨h0, h1, h2, h3⟩, ho⟩ := ho
    have ht := V.2.2.2.2.2.2.2.1
    refine W.anew V.1 V.2.1 V.2.2.2.2.2.1 (ht _ hcl) (va_AO.use (V.2.2.2.2.2.2.2.2.2.2.2.2.2.2.2.2.2.2.1 _ hw)) rfl hd rfl hn h3 h1 h2 fun cA kA comp f1 f2 f3 f4 => ?_
    generalize hH1 : H.push ({ cls := cA, slots := Array.replicate n.toNatClampNeg .null, vm := .none } : Cell) = H1
    have z1 : H1.size = H.size + 1 := by rw [← hH1, Array.size_push]
    have e1 : H1[H.size]? = some (arrV cA n.toNatClampNeg (fun _ => .null)) := by rw [← hH1, Array.getElem?_push_size, ← arrV_new]
    have o1 : ∀ q : Nat, q < H.size → H1[q]? = H[q]? := fun q hq => by rw [← hH1, Array.getElem?_push, if_neg (Nat.ne_of_lt hq)]
    have hcA : g.2.2.2.2 kd = cA := by
      obtain ⟨_, _, _, _, _, hra⟩ := (V.2.2.2.2.2.2.2.2.1.2 t0 _ ht0).2
      exact Option.some.inj (hra.symm.trans f1)
    have hx : va_at g.2.2.2.1 vwCl (g.2.1 + h.1, ax_e g (ax_nw h kd n.toNatClampNeg) h.1) H1 := by
      rw [ax_e_new (by omega), hcA, if_neg (by omega), if_neg (by omega)]
      show H1[g.2.1 + h.1]? = some (arrV cA _ (fun _ => .null))
      rw [← hP.2.1]
      exact e1
    have := hK _ ho H1 locs ls (ax_P_new hP hx z1 o1 h0) (ax_S_new hS z1 o1) hlr
    have e : ((Value.ref h.1) :: r).map (ax_v g) = .ref H.size :: r.map (ax_v g) := by rw [List.map_cons, ax_vn h0, hP.2.1]
    rw [show ((pc + 3, L, Value.ref h.1 :: r, ax_nw h kd n.toNatClampNeg, u1 + 1, u2 + n.toNatClampNeg) : ax_S).2.2.1.map (ax_v g) = .ref H.size :: r.map (ax_v g) from e] at this
    exact this
  · exact ho.elim
/-- a store of an object of class ci into an array of references -/
def ao_aast (kd ci : Nat) : ax_O := fun _ σ K => match σ with
  | (pc, L, st, h, u1, u2) => match st with
    | .ref b :: .int i :: .ref a :: r => (ax_s h a).1 = kd ∧ (ax_s h b).1 = ci ∧ vp_in i (ax_s h a).2 ∧ K (pc + 1, L, r, ax_pr h a i.toNatClampNeg (some b), u1, u2)
    | _ => False
theorem ak_aast {kd t0 ci N : Nat} {C : String} {T : u_T} (hk : ¬ kd < 15) (hk9 : kd < 99) (hci : ci < 11) (hcl : vwCl[ci]? = some (C, T, N)) (ht0 : (ax_t g)[t0]? = some (g.2.2.2.2 kd, .object C)) (hd : decode cc pc = .ok (.aastore, 1)) : ax_ok g cc nL ret own nm d mc ms pc (ao_aast kd ci) := by
  intro p e s m args below meth c V Ret L st h u1 u2 K ho hK H locs ls hP hS hl
  dsimp only [ao_aast] at ho
  split at ho
  · rename_i b i a r
    obtain ⟨ho1, ho2, ho3, ho⟩ := ho
    obtain ⟨ha, hw, hv, hk', hln⟩ := ax_arr hP ho1 (by omega) hk9
    obtain ⟨hb, hsb, -⟩ := ax_s_lt ho2 (by omega)
    have hvb := ax_vr hP hb
    have hc : ax_c g h a kd = .inr (.inr (.inr (.inr (fun j => (ax_r h a j).map (ax_ad g))))) := by unfold ax_c; rw [if_neg (by omega), if_neg (by omega)]
    rw [hc] at hw
    show W _ _ _ _ _ _ _ _ _ _ _ _ _ _ _ (F0 m pc ls (ax_v g (.ref b) :: .int i :: ax_v g (.ref a) :: r.map (ax_v g)))
    rw [hv, hvb]
    have hat : H[g.2.1 + a]? = some (arrV (g.2.2.2.2 kd) (ax_s h a).2 (fun j => va_rf ((ax_r h a j).map (ax_ad g)))) := hP.1 a _ hw
    have hatb := ax_at hP hb
    rw [ax_e_obj hsb hci] at hatb
    obtain ⟨r', hr', cellV, g1, g2, g3, -⟩ := hatb
    have hcls := (V.2.2.2.2.2.2.2.2.1.1 ci _ hcl).2
    obtain ⟨kA, comp, k1, k2, k3, -⟩ := (V.2.2.2.2.2.2.2.2.1.2 t0 _ ht0).2
    have hcomp : comp = g.2.2.2.1.1 ci := Option.some.inj (k3.symm.trans hcls.1)
    subst hcomp
    obtain ⟨kC, hkC, hkk⟩ := id hcls.2
    have hlt : i.toNatClampNeg < (ax_s h a).2 := Nat.not_le.mp fun q => ho3 (Or.inr q)
    refine W.aast V.1 V.2.1 hat (fun q h => by cases h) (fun h => by cases h) k1 k2 rfl hkC ⟨fun q => ho3 (Or.inl q), by rw [arrV_size]; exact hlt⟩ g1 (fun q h => by rw [g3] at h; cases h) (by rw [g2]; exact hkC) (by rw [g2]; exact va_assign hcls) rfl rfl hd fun H1 e1 z oq => ?_
    refine hK _ ho H1 _ ls (ax_P_set hP rfl (fun b hb => ax_e_cong rfl rfl rfl (ax_u_ne hb)) ha ?_ z oq) (hS.put z oq (Nat.le_add_right _ _)) hl
    rw [ax_e_arr (h := ax_pr h a i.toNatClampNeg (some b)) (kd := kd) hk' (by omega)]
    unfold ax_c
    rw [if_neg (by omega), if_neg (by omega)]
    show H1[g.2.1 + a]? = some (arrV (g.2.2.2.2 kd) (h.2.1 a).2 (fun j => va_rf ((ax_u h.2.2.2.2 a i.toNatClampNeg (some b) a j).map (ax_ad g))))
    rw [e1, arrV_store, hln, ax_u_eq]
    congr 2
    funext q
    by_cases hq : q = i.toNatClampNeg
    · subst hq
      have : ax_ad g b = g.2.1 + b := by
        have := hvb
        exact Value.ref.inj this
      simp [updV, va_rf, this]
    · simp [updV, hq, ax_r]
  · exact ho.elim
/-! static arrays -/
def ao_gs (j : Nat) : ax_O := fun _ σ K => match σ with
  | (pc, L, st, h, u1, u2) => K (pc + 3, L, .ref (1000000 + j) :: st, h, u1, u2)
theorem ak_gs {j index : Nat} {q : String × String × List Int32} (hq : ax_sa[j]? = some q) (hl : Cond.fieldLink own index q.1 q.2.1 "[I" ∈ lw_gd) (hd : decode cc pc = .ok (.getstatic index, 3)) : ax_ok g cc nL ret own nm d mc ms pc (ao_gs j) := by
  intro p e s m args below meth c V Ret L st h u1 u2 K ho hK H locs ls hP hS hlr
  dsimp only [ao_gs] at ho
  exact va_gets V.1 V.2.1 (V.2.2.2.2.2.2.2.2.2.2.1 j q hq).1 hS V.2.2.2.2.2.1 (V.2.2.2.2.2.2.2.1 _ hl) (fun _ h => h) hd (hK _ ho H locs ls hP hS hlr)
theorem ak_gsN {j index : Nat} {host : String} {q : String × String × List Int32} (hq : ax_sa[j]? = some q) (hl : (own, index, q.1, q.2.1, "[I", host) ∈ ax_nf) (hd : decode cc pc = .ok (.getstatic index, 3)) : ax_ok g cc nL ret own nm d mc ms pc (ao_gs j) := by
  intro p e s m args below meth c V Ret L st h u1 u2 K ho hK H locs ls hP hS hlr
  dsimp only [ao_gs] at ho
  exact va_getsN V.1 V.2.1 (V.2.2.2.2.2.2.2.2.2.2.1 j q hq).1 hS V.2.2.2.2.2.1 (va_Nw.use rfl (V.2.2.2.2.2.2.2.2.2.2.2.2.2.2.2.2.1 _ hl)) (fun _ h => h) hd (hK _ ho H locs ls hP hS hlr)
def ao_sald (j : Nat) (q : List Int32) : ax_O := fun _ σ K => match σ with
  | (pc, L, st, h, u1, u2) => match st with
    | .int i :: .ref a :: r => a = 1000000 + j ∧ vp_in i q.length ∧ K (pc + 1, L, .int (q.getD i.toNatClampNeg 0) :: r, h, u1, u2)
    | _ => False
theorem ak_sald {j : Nat} {q : String × String × List Int32} (hq : ax_sa[j]? = some q) (hd : decode cc pc = .ok (.iaload, 1)) : ax_ok g cc nL ret own nm d mc ms pc (ao_sald j q.2.2) := by
  intro p e s m args below meth c V Ret L st h u1 u2 K ho hK H locs ls hP hS hlr
  dsimp only [ao_sald] at ho
  split at ho
  · obtain ⟨rfl, hin, ho⟩ := ho
    exact va_ti V.1 V.2.1 (V.2.2.2.2.2.2.2.2.2.2.1 j q hq).2 hS hin rfl hd (hK _ ho H locs ls hP hS hlr)
  · exact ho.elim
end
section
variable {g : ax_G} {cc : ByteArray} {nL : Nat} {ret : Option FieldType} {own nm : String} {d mc ms pc : Nat}
/-- a row of ints in the place of another -/
def ax_row (h : ax_H) (a : Nat) (f : Nat → Int32) : ax_H := (h.1, h.2.1, (fun b => if b = a then f else h.2.2.1 b), h.2.2.2.1, h.2.2.2.2)
/-- System.arraycopy between arrays of kind kd (11 ints, 12 bytes) -/
def ao_copy (kd : Nat) : ax_O := fun _ σ K => match σ with
  | (pc, L, st, h, u1, u2) => match st with
    | .int n :: .int dp :: .ref a :: .int sp :: .ref b :: r => (ax_s h a).1 = kd ∧ (ax_s h b).1 = kd ∧ ((¬ sp < 0) ∧ (¬ dp < 0) ∧ (¬ n < 0) ∧ sp.toNatClampNeg + n.toNatClampNeg ≤ (ax_s h b).2 ∧ dp.toNatClampNeg + n.toNatClampNeg ≤ (ax_s h a).2) ∧ (kd = 11 ∨ ∀ i, i < n.toNatClampNeg → fits .byte (.int (ax_i h b (sp.toNatClampNeg + i))) = true) ∧ (r.map Value.category).sum ≤ 8 ∧ K (pc + 3, L, r, ax_row h a (va_cpy (ax_i h b) (ax_i h a) sp.toNatClampNeg dp.toNatClampNeg n.toNatClampNeg), u1, u2)
    | _ => False
theorem ak_copy {kd t0 index : Nat} {ty : FieldType} (hd2 : 1 < d) (hkd : kd = 11 ∧ ty = .int ∨ kd = 12 ∧ ty = .byte) (ht0 : (ax_t g)[t0]? = some (g.2.2.2.2 kd, ty)) (hl : Cond.methodLink own index arraycopyName ∈ lw_gd) (hnat : Cond.native arraycopyName ∈ lw_gd) (hstat : Cond.static arraycopyName ∈ lw_gd) (hini : Cond.initialized "java/lang/System" ∈ lw_gd) (hd : decode cc pc = .ok (.invokestatic index, 3)) : ax_ok g cc nL ret own nm d mc ms pc (ao_copy kd) := by
  intro p e s m args below meth c V Ret L st h u1 u2 K ho hK H locs ls hP hS hlr
  dsimp only [ao_copy] at ho
  split at ho
  · rename_i n dp a sp b r
    obtain ⟨hsa, hsb, ⟨h1, h2, h3, h4, h5⟩, hfit, hr8, ho⟩ := ho
    have hk1 : ¬ kd < 11 := by omega
    have hk2 : kd < 14 := by omega
    obtain ⟨ha, hwa, hva, hka, hla⟩ := ax_arr hP hsa hk1 (by omega)
    obtain ⟨hb, hwb, hvb, hkb, hlb⟩ := ax_arr hP hsb hk1 (by omega)
    have hc : ∀ x, ax_c g h x kd = .inl (ax_i h x) := fun x => by unfold ax_c; rw [if_pos hk2]
    rw [hc] at hwa hwb
    show W _ _ _ _ _ _ _ _ _ _ _ _ _ _ _ (F0 m pc ls (.int n :: .int dp :: ax_v g (.ref a) :: .int sp :: ax_v g (.ref b) :: r.map (ax_v g)))
    rw [hva, hvb]
    have ht := V.2.2.2.2.2.2.2.1
    have nn : ∀ z : Int32, ¬ z < 0 → z.toInt = (z.toNatClampNeg : Int) := by
      intro z hz
      have hz0 : (0 : Int) ≤ z.toInt := by
        have := Int32.not_lt.mp hz
        simpa using Int32.le_iff_toInt_le.mp this
      show z.toInt = ((z.toInt.toNat : Nat) : Int)
      omega
    intro T hT X
    have hc0 : H[g.2.1 + b]? = some (arrV (g.2.2.2.2 kd) (ax_s h b).2 (fun j => .int (ax_i h b j))) := hP.1 b _ hwb
    have hc1 : H[g.2.1 + a]? = some (arrV (g.2.2.2.2 kd) (ax_s h a).2 (fun j => .int (ax_i h a j))) := hP.1 a _ hwa
    obtain ⟨-, k0, hk0, cm0, hkk0⟩ := (V.2.2.2.2.2.2.2.2.1.2 t0 _ ht0).1 (ax_s h b).2 (fun j => .int (ax_i h b j))
    obtain ⟨-, k1, hk1, cm1, hkk1⟩ := (V.2.2.2.2.2.2.2.2.1.2 t0 _ ht0).1 (ax_s h a).2 (fun j => .int (ax_i h a j))
    have hprim : refKind ty = false := by rcases hkd with ⟨-, rfl⟩ | ⟨-, rfl⟩ <;> rfl
    obtain ⟨vm', X', step⟩ := X.arraycopy V.1 V.2.2.2.2.2.1 (ht _ hl) (ht _ hnat) (ht _ hstat) (ht _ hini) (src := g.2.1 + b) (dst := g.2.1 + a) (srcPos := sp) (destPos := dp) (n := n) (by rw [hT]; exact hc0) (by rw [hT]; exact hc1)
      (fun _ h => by cases h) (fun _ h => by cases h) (fun h => by cases h) (fun h => by cases h) hk0 hk1 hkk0 hkk1 (by simp [hprim]) h1 h2 h3
      (by rw [nn sp h1, nn n h3, arrV_size]; omega)
      (by rw [nn dp h2, nn n h3, arrV_size]; omega)
      (fun vm₁ _ i hi => by
        have e : (arrV (g.2.2.2.2 kd) (ax_s h b).2 (fun j => .int (ax_i h b j))).slots.getD (sp.toNatClampNeg + i) .null = .int (ax_i h b (sp.toNatClampNeg + i)) := by
          rw [Array.getD_eq_getD_getElem?, arrV_read _ _ (by omega)]
          rfl
        refine ⟨?_, ?_⟩
        · rw [e]
          rcases hkd with ⟨-, rfl⟩ | ⟨hq, rfl⟩
          · rfl
          · exact (hfit.resolve_left (by omega)) i hi
        · rw [e]
          exact trivial)
      (g := F0 m pc ls (.int n :: .int dp :: .ref (g.2.1 + a) :: .int sp :: .ref (g.2.1 + b) :: r.map (ax_v g))) rfl (by rw [V.2.2.2.2.1]; exact hlr.1) (rest := r.map (ax_v g)) rfl (by rw [V.2.1]; exact hd) (by show 1 ≤ d; omega) (by
        show 2 * 0 + _ + (_ + 11) ≤ 41 * d + 32
        rw [ax_sum]
        have : nativeFrameWords "java/lang/System" "arraycopy" 5 ≤ 60 := by decide +kernel
        omega)
    have e1 : copied (arrV (g.2.2.2.2 kd) (ax_s h b).2 (fun j => .int (ax_i h b j))) (arrV (g.2.2.2.2 kd) (ax_s h a).2 (fun j => .int (ax_i h a j))) sp dp n = arrV (g.2.2.2.2 kd) (ax_s h a).2 (fun j => .int (va_cpy (ax_i h b) (ax_i h a) sp.toNatClampNeg dp.toNatClampNeg n.toNatClampNeg j)) := va_copied (fun z => .int z) _ _ (ax_i h b) (ax_i h a) h4
    rw [e1] at X' step
    generalize va_cpy (ax_i h b) (ax_i h a) sp.toNatClampNeg dp.toNatClampNeg n.toNatClampNeg = F at X' step ho
    have hl2 : g.2.1 + a < H.size := (Array.getElem?_eq_some_iff.mp hc1).1
    generalize hcell : arrV (g.2.2.2.2 kd) (ax_s h a).2 (fun j => Value.int (F j)) = cell at X' step
    have hheap : ((T.setVm vm').setCell (g.2.1 + a) cell).heap = H.setIfInBounds (g.2.1 + a) cell := by rw [← hT]; rfl
    have oq : ∀ q : Nat, q ≠ g.2.1 + a → (H.setIfInBounds (g.2.1 + a) cell)[q]? = H[q]? := fun q hq => by simp [Array.getElem?_setIfInBounds, Ne.symm hq]
    have hnew : (H.setIfInBounds (g.2.1 + a) cell)[g.2.1 + a]? = some cell := by simp [Array.getElem?_setIfInBounds, hl2]
    obtain ⟨t, a1, b1⟩ := hK _ ho (H.setIfInBounds (g.2.1 + a) cell) _ ls (ax_P_set (a := a) (h' := ax_row h a F) hP rfl (fun x hx => ax_e_cong rfl (if_neg hx) rfl rfl) ha (by
        rw [ax_e_arr (h := ax_row h a F) (kd := kd) hka (by omega)]
        unfold ax_c
        rw [if_pos hk2]
        show (H.setIfInBounds (g.2.1 + a) cell)[g.2.1 + a]? = some (arrV (g.2.2.2.2 kd) (h.2.1 a).2 (fun j => .int ((if a = a then F else h.2.2.1 a) j)))
        rw [hnew, if_pos rfl, hla, hcell]) (by simp) oq) ⟨by simp; exact hS.1, fun q g1 g2 => by
        rw [oq q (fun e => g2 (by rw [e]; exact Nat.le_add_right _ _))]
        exact hS.2.1 q g1 g2, fun q hq => by
        rcases List.mem_append.mp hq with h | h
        · exact hS.2.2 q h
        · obtain ⟨z, -, hz⟩ := List.mem_map.mp h
          rw [← hz]
          exact Nat.le_add_right _ _⟩ hlr _ hheap X'
    exact ⟨t, step t a1, b1⟩
  · exact ho.elim
end
end

section
section
variable {g : ax_G} {cc : ByteArray} {nL : Nat} {ret : Option FieldType} {own nm : String} {d mc ms pc : Nat}
theorem ax_off {a lo n : Nat} (h1 : lo ≤ a) (h2 : a < lo + n) : ∃ i, i < n ∧ a = lo + i := ⟨a - lo, by omega, by omega⟩
/-! String constants: places 1000100 .. 1000113, their bytes 1000200 .. 1000213 -/
def ao_ldcs (i : Nat) : ax_O := fun _ σ K => match σ with
  | (pc, L, st, h, u1, u2) => K (pc + 2, L, .ref (1000100 + i) :: st, h, u1, u2)
theorem ak_ldcs {i index : Nat} {tx : String} (hi : ax_ss[i]? = some (index, tx)) (hd : decode cc pc = .ok (.ldc index, 2)) : ax_ok g cc nL ret "GluedHour$Reader" nm d mc ms pc (ao_ldcs i) := by
  intro p e s m args below meth c V Ret L st h u1 u2 K ho hK H locs ls hP hS hlr
  dsimp only [ao_ldcs] at ho
  exact va_ldcS V.1 V.2.1 V.2.2.2.2.2.1 (V.2.2.2.2.2.2.2.2.2.2.2.2.1 i _ hi) hd (hK _ ho H locs ls hP hS hlr)
def ao_sgv : ax_O := fun _ σ K => match σ with
  | (pc, L, st, h, u1, u2) => match st with
    | .ref a :: r => (1000100 ≤ a ∧ a < 1000114) ∧ K (pc + 3, L, .ref (a + 100) :: r, h, u1, u2)
    | _ => False
theorem ak_sgv {index : Nat} (hl : Cond.fieldLink own index "java/lang/String" "value" "[B" ∈ lw_gd) (hd : decode cc pc = .ok (.getfield index, 3)) : ax_ok g cc nL ret own nm d mc ms pc ao_sgv := by
  intro p e s m args below meth c V Ret L st h u1 u2 K ho hK H locs ls hP hS hlr
  dsimp only [ao_sgv] at ho
  split at ho
  · rename_i a r
    obtain ⟨i, hi14, rfl⟩ := ax_off (n := 14) ho.1.1 ho.1.2
    have hv := (V.2.2.2.2.2.2.2.2.2.2.2.1.1 i hi14).2.2.1
    refine vk_getf V.1 V.2.1 hv hS V.2.2.2.2.2.1 (V.2.2.2.2.2.2.2.1 _ hl) (fun _ h => h) hd ?_
    have := hK _ ho.2 H locs ls hP hS hlr
    rw [show (1000100 + i + 100 : Nat) = 1000200 + i from by rw [Nat.add_right_comm]] at this
    exact this
  · exact ho.elim
def ao_sgc : ax_O := fun _ σ K => match σ with
  | (pc, L, st, h, u1, u2) => match st with
    | .ref a :: r => (1000100 ≤ a ∧ a < 1000114) ∧ K (pc + 3, L, .int 0 :: r, h, u1, u2)
    | _ => False
theorem ak_sgc {index : Nat} (hl : Cond.fieldLink own index "java/lang/String" "coder" "B" ∈ lw_gd) (hd : decode cc pc = .ok (.getfield index, 3)) : ax_ok g cc nL ret own nm d mc ms pc ao_sgc := by
  intro p e s m args below meth c V Ret L st h u1 u2 K ho hK H locs ls hP hS hlr
  dsimp only [ao_sgc] at ho
  split at ho
  · rename_i a r
    obtain ⟨i, hi14, rfl⟩ := ax_off (n := 14) ho.1.1 ho.1.2
    have hv := (V.2.2.2.2.2.2.2.2.2.2.2.1.1 i hi14).2.1
    exact vk_getf V.1 V.2.1 hv hS V.2.2.2.2.2.1 (V.2.2.2.2.2.2.2.1 _ hl) (fun _ h => h) hd (hK _ ho.2 H locs ls hP hS hlr)
  · exact ho.elim
theorem ak_gcs {index : Nat} (hl : Cond.fieldLink own index "java/lang/String" "COMPACT_STRINGS" "Z" ∈ lw_gd) (hd : decode cc pc = .ok (.getstatic index, 3)) : ax_ok g cc nL ret own nm d mc ms pc (ao_ic 1 3) := by
  intro p e s m args below meth c V Ret L st h u1 u2 K ho hK H locs ls hP hS hlr
  dsimp only [ao_ic] at ho
  exact va_gets V.1 V.2.1 V.2.2.2.2.2.2.2.2.2.2.2.2.2.1 hS V.2.2.2.2.2.1 (V.2.2.2.2.2.2.2.1 _ hl) (fun _ h => h) hd (hK _ ho H locs ls hP hS hlr)
def ao_slen : ax_O := fun _ σ K => match σ with
  | (pc, L, st, h, u1, u2) => match st with
    | .ref a :: r => (1000200 ≤ a ∧ a < 1000214) ∧ K (pc + 1, L, .int (Int32.ofNat (ax_sl.getD (a - 1000200) 0)) :: r, h, u1, u2)
    | _ => False
theorem ak_slen (hd : decode cc pc = .ok (.arraylength, 1)) : ax_ok g cc nL ret own nm d mc ms pc ao_slen := by
  intro p e s m args below meth c V Ret L st h u1 u2 K ho hK H locs ls hP hS hlr
  dsimp only [ao_slen] at ho
  split at ho
  · rename_i a r
    obtain ⟨i, hi14, rfl⟩ := ax_off (n := 14) ho.1.1 ho.1.2
    have hv := (V.2.2.2.2.2.2.2.2.2.2.2.1.1 i hi14).2.2.2
    have := ho.2
    rw [show (1000200 + i - 1000200 : Nat) = i from Nat.add_sub_cancel_left _ _] at this
    exact va_tlen V.1 V.2.1 hv hS rfl hd (hK _ this H locs ls hP hS hlr)
  · exact ho.elim
def ao_sbld : ax_O := fun _ σ K => match σ with
  | (pc, L, st, h, u1, u2) => match st with
    | .int j :: .ref a :: r => (1000200 ≤ a ∧ a < 1000214) ∧ vp_in j (ax_sl.getD (a - 1000200) 0) ∧ K (pc + 1, L, .int ((ax_sb.getD (a - 1000200) []).getD j.toNatClampNeg 0) :: r, h, u1, u2)
    | _ => False
theorem ak_sbld (hd : decode cc pc = .ok (.baload, 1)) : ax_ok g cc nL ret own nm d mc ms pc ao_sbld := by
  intro p e s m args below meth c V Ret L st h u1 u2 K ho hK H locs ls hP hS hlr
  dsimp only [ao_sbld] at ho
  split at ho
  · rename_i j a r
    obtain ⟨i, hi14, rfl⟩ := ax_off (n := 14) ho.1.1 ho.1.2
    have hv := (V.2.2.2.2.2.2.2.2.2.2.2.1.1 i hi14).2.2.2
    have := ho.2
    rw [show (1000200 + i - 1000200 : Nat) = i from Nat.add_sub_cancel_left _ _] at this
    exact va_tb V.1 V.2.1 hv hS this.1 rfl hd (hK _ this.2 H locs ls hP hS hlr)
  · exact ho.elim
def ao_nret (ty : FieldType) : ax_O := fun Ret σ _ => match σ with
  | (pc, L, st, h, u1, u2) => match st with
    | [.int x] => (u1 ≤ 0 ∧ u2 ≤ 0) ∧ narrow ty (.int x) = .int x ∧ Ret (some (.int x)) h
    | _ => False
theorem ak_nret {ty : FieldType} (hr : ret = some ty) (hd : decode cc pc = .ok (.ireturn, 1)) : ax_ok g cc nL ret own nm d 0 0 pc (ao_nret ty) := by
  intro p e s m args below meth c V Ret L st h u1 u2 K ho hK H locs ls hP hS hl
  dsimp only [ao_nret] at ho
  split at ho
  · rename_i x
    refine W.widen ho.1.1 ho.1.2 ?_
    exact W.zret V.1 V.2.1 (V.2.2.1.trans hr) ho.2.1 (ax_qr (v := some (.int x)) hP hS ho.2.2) hS.2.2 hd V.2.2.2.1
  · exact ho.elim
/-- a method of a String constant -/
def ao_invs (g : ax_G) (d' : Nat) (y : MethodName) (cc : ByteArray) (nL : Nat) (ret : Option FieldType) (n : Nat) : ax_O := fun _ σ K => match σ with
  | (pc, L, st, h, u1, u2) => match ax_sp n [] st with
    | some (as, rest) => (∃ i bs, i < 14 ∧ as = .ref (1000100 + i) :: bs) ∧ ((rest.map Value.category).sum ≤ 8 ∧ u1 = 0 ∧ u2 = 0) ∧ ax_M g d' 0 0 y cc nL ret as h (fun v h' => ax_rk 1 v (fun vs => K (pc + 3, L, vs ++ rest, h', u1, u2)))
    | none => False
theorem ak_invs {d' : Nat} (hdl : d' < d) {y : MethodName} {cc' : ByteArray} {nL' n index : Nat} {ret' : Option FieldType} (hcls : y.cls = "java/lang/String") (hn' : nL' ≤ 22) (hl : Cond.methodLink own index y ∈ lw_gd) (him : Cond.instanceMethod y ∈ lw_gd) (hsel : Cond.selects y.cls y y ∈ lw_gd) (hi : Cond.initialized y.cls ∈ lw_gd) (hcode : Cond.code y cc' nL' ret' ∈ lw_gd) (hdd : y.cls ≠ "java/lang/invoke/MethodHandle" ∧ y.cls ≠ "java/lang/invoke/VarHandle" ∧ (parseMethodDescriptor y.desc).map (fun d => d.parameters.length) = some n) (hd : decode cc pc = .ok (.invokevirtual index, 3)) : ax_ok g cc nL ret own nm d mc ms pc (ao_invs g d' y cc' nL' ret' (n + 1)) := by
  intro p e s m args below meth c V Ret L st h u1 u2 K ho hK H locs ls hP hS hlr
  dsimp only [ao_invs] at ho
  split at ho
  · rename_i as rest hsp
    obtain ⟨⟨i, As, hi14, rfl⟩, ⟨hrest, rfl, rfl⟩, hM⟩ := ho
    obtain ⟨bs, h1, h2, h3⟩ := ax_sp_eq _ _ _ _ _ hsp
    rw [List.append_nil] at h1
    subst h1
    have hpre := ax_PreS (as := .ref (1000100 + i) :: As) V hP hS
    have hrecv := vk_recv V.2.2.2.2.2.2.2.2.2.2.2.1 hi14 hS
    rw [← hcls] at hrecv
    have hmap : (Value.ref (1000100 + i) :: As).map (ax_v g) = .ref (ax_ad g (1000100 + i)) :: As.map (ax_v g) := rfl
    rw [hmap] at hpre
    refine ax_call (mc' := 0) (ms' := 0) (rest := rest.map (ax_v g)) (va_runV (C := y.cls) (b := ax_ad g (1000100 + i)) (As := As.map (ax_v g)) (n := n) ⟨V.1, V.2.1, V.2.2.2.2.1, V.2.2.2.2.2.1, V.2.2.2.2.2.2.2.1⟩ hM (cwV n V.2.2.2.2.2.2.2.1 (ax_gi ?_) rfl rfl rfl ⟨rfl, hdd⟩ (ax_rmL hdl hn' 0 0 mc ms)) ⟨hpre.1, hrecv, hpre.2⟩ rfl (by rw [List.length_map]; simpa using h2) hlr.1 (by show List.map (ax_v g) st = _; rw [h3, List.map_append, List.map_reverse, hmap, List.reverse_cons, List.append_assoc]; rfl) (by show 0 + _ ≤ 8; rw [Nat.zero_add, ax_sum]; exact hrest) hd ⟨Nat.zero_le _, Nat.zero_le _⟩) hS ?_
    · intro w hw
      rcases List.mem_append.mp hw with hw | hw
      · simp only [List.mem_cons, List.not_mem_nil, or_false] at hw
        rcases hw with rfl | rfl | rfl | rfl
        · exact hl
        · exact him
        · exact hsel
        · exact hi
      · exact ax_pre hcode w hw
    · intro v h' H1 locs1 hR hP1 hS1
      have := hK _ (ax_rk_use hR) H1 locs1 ls hP1 hS1 hlr
      cases v <;> exact this
  · exact ho.elim
end
section
variable {g : ax_G} {cc : ByteArray} {nL : Nat} {ret : Option FieldType} {own nm : String} {d mc ms pc : Nat}
/-! the script: place 1000300 -/
def ao_xlen (g : ax_G) : ax_O := fun _ σ K => match σ with
  | (pc, L, st, h, u1, u2) => match st with
    | .ref a :: r => a = 1000300 ∧ K (pc + 1, L, .int (Int32.ofNat (g.2.2.1 400)) :: r, h, u1, u2)
    | _ => False
theorem ak_xlen (hd : decode cc pc = .ok (.arraylength, 1)) : ax_ok g cc nL ret own nm d mc ms pc (ao_xlen g) := by
  intro p e s m args below meth c V Ret L st h u1 u2 K ho hK H locs ls hP hS hlr
  dsimp only [ao_xlen] at ho
  split at ho
  · obtain ⟨rfl, ho⟩ := ho
    obtain ⟨hX, hA, -⟩ := V.2.2.2.2.2.2.2.2.2.2.2.2.2.2
    exact va_slen V.1 V.2.1 hX (by obtain ⟨_, h1, _⟩ := hX; exact (Array.getElem?_eq_some_iff.mp h1).1) hA hS hd (hK _ ho H locs ls hP hS hlr)
  · exact ho.elim
def ao_xld (g : ax_G) : ax_O := fun _ σ K => match σ with
  | (pc, L, st, h, u1, u2) => match st with
    | .int i :: .ref a :: r => a = 1000300 ∧ vp_in i (g.2.2.1 400) ∧ K (pc + 1, L, .int (Int32.ofNat (g.2.2.1 (1000 + i.toNatClampNeg))) :: r, h, u1, u2)
    | _ => False
theorem ak_xld (hd : decode cc pc = .ok (.iaload, 1)) : ax_ok g cc nL ret own nm d mc ms pc (ao_xld g) := by
  intro p e s m args below meth c V Ret L st h u1 u2 K ho hK H locs ls hP hS hlr
  dsimp only [ao_xld] at ho
  split at ho
  · obtain ⟨rfl, hin, ho⟩ := ho
    obtain ⟨hX, hA, -⟩ := V.2.2.2.2.2.2.2.2.2.2.2.2.2.2
    exact va_sld V.1 V.2.1 hX (by obtain ⟨_, h1, _⟩ := hX; exact (Array.getElem?_eq_some_iff.mp h1).1) hA hS hin hd (hK _ ho H locs ls hP hS hlr)
  · exact ho.elim
end
section
variable {g : ax_G} {cc : ByteArray} {nL : Nat} {ret : Option FieldType} {own nm : String} {d mc ms pc : Nat}
def ao_zast : ax_O := fun _ σ K => match σ with
  | (pc, L, st, h, u1, u2) => match st with
    | .int x :: .int i :: .ref a :: r => (x = 0 ∨ x = 1) ∧ (ax_s h a).1 = 13 ∧ vp_in i (ax_s h a).2 ∧ K (pc + 1, L, r, ax_pi h a i.toNatClampNeg x, u1, u2)
    | _ => False
theorem ak_zast (hd : decode cc pc = .ok (.bastore, 1)) : ax_ok g cc nL ret own nm d mc ms pc ao_zast := by
  intro p e s m args below meth c V Ret L st h u1 u2 K ho hK H locs ls hP hS hl
  dsimp only [ao_zast] at ho
  split at ho
  · rename_i x i a r
    obtain ⟨h01, ho⟩ := ho
    obtain ⟨ha, hw, hv, hk, hln⟩ := ax_arr hP ho.1 (by decide) (by decide)
    show W _ _ _ _ _ _ _ _ _ _ _ _ _ _ _ (F0 m pc ls (Value.int x :: .int i :: ax_v g (.ref a) :: r.map (ax_v g)))
    rw [hv]
    have hat : H[g.2.1 + a]? = some (arrV (g.2.2.2.2 13) (ax_s h a).2 (fun j => .int (ax_i h a j))) := hP.1 a _ hw
    refine W.zast V.1 V.2.1 hat ((V.2.2.2.2.2.2.2.2.1.2 2 _ rfl).1 _ _) (fun q => by cases q) (ax_in_size ho.2.1) rfl rfl hd fun H1 e1 z oq => ?_
    refine hK _ ho.2.2 H1 _ ls (ax_P_set hP rfl (fun b hb => ax_e_cong rfl (ax_u_ne hb) rfl rfl) ha ?_ z oq) (hS.put z oq (Nat.le_add_right _ _)) hl
    rw [ax_e_arr (h := ax_pi h a i.toNatClampNeg x) (kd := 13) hk (by decide)]
    show H1[g.2.1 + a]? = some (arrV (g.2.2.2.2 13) (h.2.1 a).2 (fun j => .int (ax_u h.2.2.1 a i.toNatClampNeg x a j)))
    rw [e1, arrV_store, hln, ax_u_eq]
    have hnr : narrow .boolean (.int x) = .int x := by rcases h01 with rfl | rfl <;> rfl
    congr 2
    funext q
    by_cases hq : q = i.toNatClampNeg
    · subst hq
      simp [updV, hnr]
    · simp [updV, hq, ax_i]
  · exact ho.elim
end
end

section
section
variable {g : ax_G} {cc : ByteArray} {nL : Nat} {ret : Option FieldType} {own nm : String} {d mc ms pc : Nat}
def ao_imax : ax_O := fun _ σ K => match σ with
  | (pc, L, st, h, u1, u2) => match st with
    | .int y :: .int x :: r => bif Nat.ble (r.map Value.category).sum 8 && (Nat.beq u1 0 && Nat.beq u2 0) then K (pc + 3, L, .int (if x < y then y else x) :: r, h, u1, u2) else False
    | _ => False
def ao_imin : ax_O := fun _ σ K => match σ with
  | (pc, L, st, h, u1, u2) => match st with
    | .int y :: .int x :: r => bif Nat.ble (r.map Value.category).sum 8 && (Nat.beq u1 0 && Nat.beq u2 0) then K (pc + 3, L, .int (if y < x then y else x) :: r, h, u1, u2) else False
    | _ => False
def ao_iabs : ax_O := fun _ σ K => match σ with
  | (pc, L, st, h, u1, u2) => match st with
    | .int x :: r => bif Nat.ble (r.map Value.category).sum 8 && (Nat.beq u1 0 && Nat.beq u2 0) then K (pc + 3, L, .int (if 0 ≤ x then x else 0 - x) :: r, h, u1, u2) else False
    | _ => False
def ao_lmax : ax_O := fun _ σ K => match σ with
  | (pc, L, st, h, u1, u2) => match st with
    | .long y :: .long x :: r => bif Nat.ble (r.map Value.category).sum 8 && (Nat.beq u1 0 && Nat.beq u2 0) then K (pc + 3, L, .long (if y < x then x else y) :: r, h, u1, u2) else False
    | _ => False
theorem ax_bifm {a b c d : Nat} {X : Prop} (h : bif Nat.ble a b && (Nat.beq c 0 && Nat.beq d 0) then X else False) : (a ≤ b ∧ c = 0 ∧ d = 0) ∧ X := by
  cases h1 : Nat.ble a b <;> cases h2 : Nat.beq c 0 <;> cases h3 : Nat.beq d 0 <;> rw [h1, h2, h3] at h <;> first | exact h.elim | exact ⟨⟨Nat.le_of_ble_eq_true h1, Nat.eq_of_beq_eq_true h2, Nat.eq_of_beq_eq_true h3⟩, h⟩
theorem ax_mr {r : List Value} (hr : (r.map Value.category).sum ≤ 8) : ((r.map (ax_v g)).map fun v => v.category).sum + 13 ≤ (ax_rm d mc ms).locals := by
  rw [ax_sum]
  show _ ≤ 41 * d + 32
  omega
theorem ak_imax {index : Nat} (hdl : 0 < d) (hl : Cond.methodLink own index Lib.Math.max.name ∈ lw_gd) (hst : Cond.static Lib.Math.max.name ∈ lw_gd) (hi : Cond.initialized "java/lang/Math" ∈ lw_gd) (hc : Cond.code Lib.Math.max.name Lib.Math.max.code 2 (some .int) ∈ lw_gd) (hd : decode cc pc = .ok (.invokestatic index, 3)) : ax_ok g cc nL ret own nm d mc ms pc ao_imax := by
  intro p e s m args below meth c V Ret L st h u1 u2 K ho hK H locs ls hP hS hlr
  dsimp only [ao_imax] at ho
  split at ho
  · obtain ⟨⟨hr, rfl, rfl⟩, ho⟩ := ax_bifm ho
    have ht := V.2.2.2.2.2.2.2.1
    exact va_mmax V.1 V.2.1 (V.2.2.2.2.1.trans hlr.1.symm) V.2.2.2.2.2.1 (ht _ hl) (ht _ hst) (ht _ hi) (ht _ hc) (show 1 ≤ (ax_rm d mc ms).frames from hdl) (ax_mr hr) (Nat.zero_le _) (Nat.zero_le _) hd (hK _ ho H locs ls hP hS hlr)
  · exact ho.elim
theorem ak_imin {index : Nat} (hdl : 0 < d) (hl : Cond.methodLink own index Lib.Math.min.name ∈ lw_gd) (hst : Cond.static Lib.Math.min.name ∈ lw_gd) (hi : Cond.initialized "java/lang/Math" ∈ lw_gd) (hc : Cond.code Lib.Math.min.name Lib.Math.min.code 2 (some .int) ∈ lw_gd) (hd : decode cc pc = .ok (.invokestatic index, 3)) : ax_ok g cc nL ret own nm d mc ms pc ao_imin := by
  intro p e s m args below meth c V Ret L st h u1 u2 K ho hK H locs ls hP hS hlr
  dsimp only [ao_imin] at ho
  split at ho
  · obtain ⟨⟨hr, rfl, rfl⟩, ho⟩ := ax_bifm ho
    have ht := V.2.2.2.2.2.2.2.1
    exact va_mmin V.1 V.2.1 (V.2.2.2.2.1.trans hlr.1.symm) V.2.2.2.2.2.1 (ht _ hl) (ht _ hst) (ht _ hi) (ht _ hc) (show 1 ≤ (ax_rm d mc ms).frames from hdl) (ax_mr hr) (Nat.zero_le _) (Nat.zero_le _) hd (hK _ ho H locs ls hP hS hlr)
  · exact ho.elim
theorem ak_iabs {index : Nat} (hdl : 0 < d) (hl : Cond.methodLink own index Lib.Math.abs.name ∈ lw_gd) (hst : Cond.static Lib.Math.abs.name ∈ lw_gd) (hi : Cond.initialized "java/lang/Math" ∈ lw_gd) (hc : Cond.code Lib.Math.abs.name Lib.Math.abs.code 1 (some .int) ∈ lw_gd) (hd : decode cc pc = .ok (.invokestatic index, 3)) : ax_ok g cc nL ret own nm d mc ms pc ao_iabs := by
  intro p e s m args below meth c V Ret L st h u1 u2 K ho hK H locs ls hP hS hlr
  dsimp only [ao_iabs] at ho
  split at ho
  · obtain ⟨⟨hr, rfl, rfl⟩, ho⟩ := ax_bifm ho
    have ht := V.2.2.2.2.2.2.2.1
    exact va_mabs V.1 V.2.1 (V.2.2.2.2.1.trans hlr.1.symm) V.2.2.2.2.2.1 (ht _ hl) (ht _ hst) (ht _ hi) (ht _ hc) (show 1 ≤ (ax_rm d mc ms).frames from hdl) (ax_mr hr) (Nat.zero_le _) (Nat.zero_le _) hd (hK _ ho H locs ls hP hS hlr)
  · exact ho.elim
theorem ak_lmax {index : Nat} (hdl : 0 < d) (hl : Cond.methodLink own index Lib.MathLoose.max_long.x ∈ lw_gd) (hst : Cond.static Lib.MathLoose.max_long.x ∈ lw_gd) (hi : Cond.initialized "java/lang/Math" ∈ lw_gd) (hc : Cond.code Lib.MathLoose.max_long.x Lib.MathLoose.max_long.code 4 (some .long) ∈ lw_gd) (hd : decode cc pc = .ok (.invokestatic index, 3)) : ax_ok g cc nL ret own nm d mc ms pc ao_lmax := by
  intro p e s m args below meth c V Ret L st h u1 u2 K ho hK H locs ls hP hS hlr
  dsimp only [ao_lmax] at ho
  split at ho
  · rename_i y x r
    obtain ⟨⟨hr, rfl, rfl⟩, ho⟩ := ax_bifm ho
    have ht := V.2.2.2.2.2.2.2.1
    intro T hT X
    obtain ⟨vm', X', st⟩ := X.mathMaxLH V.1 V.2.2.2.2.2.1 (ht _ hl) (ht _ hst) (ht _ hi) (ht _ hc) (g := F0 m pc ls (.long y :: .long x :: r.map (ax_v g))) rfl (hlr.1.trans V.2.2.2.2.1.symm) (a := x) (b := y) (rest := r.map (ax_v g)) rfl (by rw [V.2.1]; exact hd) hdl (by
      show 2 * 0 + _ + 15 ≤ 41 * d + 32
      rw [ax_sum]; omega) (Nat.zero_le _) (Nat.zero_le _)
    obtain ⟨t, a1, b1⟩ := hK _ ho H locs ls hP hS hlr (T.setVm vm') hT X'
    exact ⟨t, st t a1, b1⟩
  · exact ho.elim
def ao_labs : ax_O := fun _ σ K => match σ with
  | (pc, L, st, h, u1, u2) => match st with
    | .long x :: r => bif Nat.ble (r.map Value.category).sum 8 && (Nat.beq u1 0 && Nat.beq u2 0) then K (pc + 3, L, .long (if 0 < x then x else if x = 0 then x else -x) :: r, h, u1, u2) else False
    | _ => False
theorem ax_labsH {p : Program} {l : Launch} {e : Env} {R : Room} {s T : State} {m : MethodId} {args : Array Value} {below : List Frame} {meth : Method} {c : Code} {locs : List Loc} {cells slots : Nat} (X : Stand p l e R s m args below meth c T locs cells slots) (hexec : p.tables.exec = Jvm.exec) {index : Nat} (hown : s.vm.findClass own = some m.cls)
    (hlink : (Cond.methodLink own index Lib.MathLoose.abs_long.x).before args s = true) (hstat : (Cond.static Lib.MathLoose.abs_long.x).before args s = true) (hinit : (Cond.initialized "java/lang/Math").before args s = true)
    (hcode : (Cond.code Lib.MathLoose.abs_long.x Lib.MathLoose.abs_long.code 2 (some .long)).before args s = true)
    {f : JFrame} (hg : f.method = m) (hsize : f.locals.size = c.maxLocals) {a : Int64} {rest : List Value} (hstack : f.stack = .long a :: rest) (hdg : decode c.code f.pc = .ok (.invokestatic index, 3))
    (hframes : 1 ≤ R.frames) (hlocals : 2 * f.monitorRoom + (rest.map fun v => v.category).sum + 13 ≤ R.locals) (hcells : cells ≤ R.cells) (hslots : slots ≤ R.slots) :
    ∃ vm', Stand p l e R s m args below meth c (T.setVm vm') locs cells slots ∧
      ∀ target, Steps p.tables e below ((T.setVm vm').setTop { f with pc := f.pc + 3, stack := .long (if 0 < a then a else if a = 0 then a else -a) :: rest }) target → Steps p.tables e below (T.setTop f) target := by
  obtain ⟨v, vm', X', ⟨first, t, hpost⟩, hstep⟩ := X.staticByContractHK hexec hown hlink hstat hinit hcode (by decide) (Lib.MathLoose.abs_long.meetsLoose l) rfl rfl rfl rfl
    (fun args' first o s₂ h => by
      cases o with
      | returned r => exact ⟨r, rfl⟩
      | threw y =>
        exfalso
        simp only [Lib.MathLoose.abs_long.spec, Cond.after, Cond.holds, Cond.value] at h
        generalize Term.eval args' first (some (Outcome.threw y)) [] s₂ (Term.arg 0) = e0 at h
        rcases e0 with _ | v0
        all_goals first | (cases v0 <;> simp at h) | simp at h
        all_goals (revert h; repeat' split) <;> simp_all)
    hg hsize (argsL := [.long a]) (rest := rest)
    (fun sig hs => by
      have h : parseMethodDescriptor "(J)J" = some { parameters := [.long], returnType := some .long } := by decide +kernel
      rw [show Lib.MathLoose.abs_long.x.desc = "(J)J" from rfl, h] at hs
      rw [← Option.some.inj hs]; rfl)
    hstack hdg
    (fun vm' hW => by
      simp only [Lib.MathLoose.abs_long.spec, Cond.before_and, Bool.and_eq_true]
      refine ⟨?_, rfl, rfl⟩
      have q := hcode
      rw [← Cond.code_setVm hW.alike] at q
      simp only [Cond.before, Cond.holds, Cond.value, State.methodNamed?, State.vm_setVm] at q ⊢
      exact q)
    (by show 0 + 1 ≤ R.frames; omega) (by show 2 * f.monitorRoom + (rest.map fun v => v.category).sum + (2 + 11) + 0 ≤ R.locals; omega) (by show cells + 0 ≤ R.cells; omega) (by show slots + 0 ≤ R.slots; omega)
  refine ⟨vm', X', fun target h => hstep target ?_⟩
  have key : v = some (.long (if 0 < a then a else if a = 0 then a else -a)) := by
    revert hpost
    by_cases h1 : 0 < a
    · rcases v with _ | w
      · simp [Lib.MathLoose.abs_long.spec, Cond.after, Cond.holds, Cond.value, Term.eval, Unary.apply, h1] <;> (try (intro hq; split at hq <;> simp_all))
      · cases w <;> simp [Lib.MathLoose.abs_long.spec, Cond.after, Cond.holds, Cond.value, Term.eval, Unary.apply, h1] <;> (try (intro hq; split at hq <;> simp_all))
    · by_cases h2 : a = 0
      · rcases v with _ | w
        · simp [Lib.MathLoose.abs_long.spec, Cond.after, Cond.holds, Cond.value, Term.eval, Unary.apply, h1, h2] <;> (try (intro hq; split at hq <;> simp_all))
        · cases w <;> simp [Lib.MathLoose.abs_long.spec, Cond.after, Cond.holds, Cond.value, Term.eval, Unary.apply, h1, h2] <;> (try (intro hq; split at hq <;> simp_all))
      · rcases v with _ | w
        · simp [Lib.MathLoose.abs_long.spec, Cond.after, Cond.holds, Cond.value, Term.eval, Unary.apply, h1, h2] <;> (try (intro hq; split at hq <;> simp_all))
        · cases w <;> simp [Lib.MathLoose.abs_long.spec, Cond.after, Cond.holds, Cond.value, Term.eval, Unary.apply, h1, h2] <;> (try (intro hq; split at hq <;> simp_all))
  subst key
  exact h
theorem ak_labs {index : Nat} (hdl : 0 < d) (hl : Cond.methodLink own index Lib.MathLoose.abs_long.x ∈ lw_gd) (hst : Cond.static Lib.MathLoose.abs_long.x ∈ lw_gd) (hi : Cond.initialized "java/lang/Math" ∈ lw_gd) (hc : Cond.code Lib.MathLoose.abs_long.x Lib.MathLoose.abs_long.code 2 (some .long) ∈ lw_gd) (hd : decode cc pc = .ok (.invokestatic index, 3)) : ax_ok g cc nL ret own nm d mc ms pc ao_labs := by
  intro p e s m args below meth c V Ret L st h u1 u2 K ho hK H locs ls hP hS hlr
  dsimp only [ao_labs] at ho
  split at ho
  · rename_i x r
    obtain ⟨⟨hr, rfl, rfl⟩, ho⟩ := ax_bifm ho
    have ht := V.2.2.2.2.2.2.2.1
    intro T hT X
    obtain ⟨vm', X', st⟩ := ax_labsH X V.1 V.2.2.2.2.2.1 (ht _ hl) (ht _ hst) (ht _ hi) (ht _ hc) (f := F0 m pc ls (.long x :: r.map (ax_v g))) rfl (hlr.1.trans V.2.2.2.2.1.symm) (a := x) (rest := r.map (ax_v g)) rfl (by rw [V.2.1]; exact hd) hdl (by
      show 2 * 0 + _ + 13 ≤ 41 * d + 32
      rw [ax_sum]; omega) (Nat.zero_le _) (Nat.zero_le _)
    obtain ⟨t, a1, b1⟩ := hK _ ho H locs ls hP hS hlr (T.setVm vm') hT X'
    exact ⟨t, st t a1, b1⟩
  · exact ho.elim
end
section
variable {g : ax_G} {cc : ByteArray} {nL : Nat} {ret : Option FieldType} {own nm : String} {d mc ms pc : Nat}
/-! where cells are made: the counts as propositions -/
theorem ak_imp {o o' : ax_O} (h : ax_ok g cc nL ret own nm d mc ms pc o) (hi : ∀ Ret L st hp u1 u2 K, o' Ret (pc, L, st, hp, u1, u2) K → o Ret (pc, L, st, hp, u1, u2) K) : ax_ok g cc nL ret own nm d mc ms pc o' := fun p e s m args below meth c V Ret L st hp u1 u2 K ho hK => h p e s m args below meth c V Ret L st hp u1 u2 K (hi Ret L st hp u1 u2 K ho) hK
def ao_inva (g : ax_G) (d' ci rk : Nat) (y : MethodName) (cc : ByteArray) (nL : Nat) (ret : Option FieldType) (n mc mx ms my : Nat) : ax_O := fun _ σ K => match σ with
  | (pc, L, st, h, u1, u2) => match ax_sp n [] st with
    | some (as, rest) => ((rest.map Value.category).sum ≤ 8 ∧ u1 + mc ≤ mx ∧ u2 + ms ≤ my) ∧ ax_rc ci as h (ax_M g d' mc ms y cc nL ret as h (fun v h' => ax_rk rk v (fun vs => K (pc + 3, L, vs ++ rest, h', u1 + mc, u2 + ms))))
    | none => False
theorem ax_ble {a b : Nat} (h : a ≤ b) : Nat.ble a b = true := Nat.ble_eq.mpr h
theorem ak_inva {d' ci rk : Nat} {y : MethodName} {cc' : ByteArray} {nL' : Nat} {ret' : Option FieldType} {n mc' mx ms' my : Nat} (h : ax_ok g cc nL ret own nm d mc ms pc (ao_inv g d' ci rk y cc' nL' ret' n mc' mx ms' my)) : ax_ok g cc nL ret own nm d mc ms pc (ao_inva g d' ci rk y cc' nL' ret' n mc' mx ms' my) := by
  refine ak_imp h ?_
  intro Ret L st hp u1 u2 K ho
  dsimp only [ao_inva] at ho
  dsimp only [ao_inv]
  split at ho
  · rename_i as rest heq
    try rw [heq]
    try dsimp only
    rw [ax_ble ho.1.1, ax_ble ho.1.2.1, ax_ble ho.1.2.2]
    exact ho.2
  · exact ho.elim
def ao_vreta (mc ms : Nat) : ax_O := fun Ret σ _ => match σ with
  | (pc, L, st, h, u1, u2) => match st with
    | [] => (u1 ≤ mc ∧ u2 ≤ ms) ∧ Ret none h
    | _ => False
def ao_zreta (mc ms : Nat) : ax_O := fun Ret σ _ => match σ with
  | (pc, L, st, h, u1, u2) => match st with
    | [.int x] => (u1 ≤ mc ∧ u2 ≤ ms) ∧ (x = 0 ∨ x = 1) ∧ Ret (some (.int x)) h
    | _ => False
theorem ax_rb_of {a b u1 u2 : Nat} {X : Prop} (h : (u1 ≤ a ∧ u2 ≤ b) ∧ X) : ax_rb a b u1 u2 X := by
  unfold ax_rb
  cases Nat.beq u1 0 && Nat.beq u2 0
  · exact h
  · exact h.2
theorem ak_vreta (h : ax_ok g cc nL ret own nm d mc ms pc (ao_vret mc ms)) : ax_ok g cc nL ret own nm d mc ms pc (ao_vreta mc ms) := by
  refine ak_imp h ?_
  intro Ret L st hp u1 u2 K ho
  dsimp only [ao_vreta] at ho
  dsimp only [ao_vret]
  split at ho
  · exact ax_rb_of ho
  · exact ho.elim
theorem ak_zreta (h : ax_ok g cc nL ret own nm d mc ms pc (ao_zret mc ms)) : ax_ok g cc nL ret own nm d mc ms pc (ao_zreta mc ms) := by
  refine ak_imp h ?_
  intro Ret L st hp u1 u2 K ho
  dsimp only [ao_zreta] at ho
  dsimp only [ao_zret]
  split at ho
  · exact ax_rb_of ho
  · exact ho.elim
end
end

section
section
theorem dv_X0 : ∀ j, j < 4 → defaultValue (tyX0 j) = vp_V ((ax_ft 0).map fun t => if t = 0 then .int 0 else if t = 1 then .long 0 else .null) j := by decide +kernel
theorem dv_X1 : ∀ j, j < 2 → defaultValue (tyX1 j) = vp_V ((ax_ft 1).map fun t => if t = 0 then .int 0 else if t = 1 then .long 0 else .null) j := by decide +kernel
theorem dv_X10 : ∀ j, j < 59 → defaultValue (tyX10 j) = vp_V ((ax_ft 10).map fun t => if t = 0 then .int 0 else if t = 1 then .long 0 else .null) j := by decide +kernel
theorem dv_X2 : ∀ j, j < 4 → defaultValue (tyX2 j) = vp_V ((ax_ft 2).map fun t => if t = 0 then .int 0 else if t = 1 then .long 0 else .null) j := by decide +kernel
theorem dv_X3 : ∀ j, j < 3 → defaultValue (tyX3 j) = vp_V ((ax_ft 3).map fun t => if t = 0 then .int 0 else if t = 1 then .long 0 else .null) j := by decide +kernel
theorem dv_X4 : ∀ j, j < 9 → defaultValue (tyX4 j) = vp_V ((ax_ft 4).map fun t => if t = 0 then .int 0 else if t = 1 then .long 0 else .null) j := by decide +kernel
theorem dv_X5 : ∀ j, j < 14 → defaultValue (tyX5 j) = vp_V ((ax_ft 5).map fun t => if t = 0 then .int 0 else if t = 1 then .long 0 else .null) j := by decide +kernel
theorem dv_X6 : ∀ j, j < 7 → defaultValue (tyX6 j) = vp_V ((ax_ft 6).map fun t => if t = 0 then .int 0 else if t = 1 then .long 0 else .null) j := by decide +kernel
theorem dv_X7 : ∀ j, j < 5 → defaultValue (tyX7 j) = vp_V ((ax_ft 7).map fun t => if t = 0 then .int 0 else if t = 1 then .long 0 else .null) j := by decide +kernel
theorem dv_X8 : ∀ j, j < 7 → defaultValue (tyX8 j) = vp_V ((ax_ft 8).map fun t => if t = 0 then .int 0 else if t = 1 then .long 0 else .null) j := by decide +kernel
theorem dv_X9 : ∀ j, j < 9 → defaultValue (tyX9 j) = vp_V ((ax_ft 9).map fun t => if t = 0 then .int 0 else if t = 1 then .long 0 else .null) j := by decide +kernel
theorem fF_X9_10 : ax_F RX9 10 9 0 2 := ⟨by decide, by decide, _, _, _, tyX9, rfl, ig_X9, tyX9_ok, nmX9, by decide, wd_419⟩
theorem fF_X9_16 : ax_F RX9 16 9 1 2 := ⟨by decide, by decide, _, _, _, tyX9, rfl, ig_X9, tyX9_ok, nmX9, by decide, wd_420⟩
theorem fF_X9_22 : ax_F RX9 22 8 0 2 := ⟨by decide, by decide, _, _, _, tyX8, rfl, ig_X8, tyX8_ok, nmX8, by decide, wd_209⟩
theorem fF_X9_29 : ax_F RX9 29 9 2 2 := ⟨by decide, by decide, _, _, _, tyX9, rfl, ig_X9, tyX9_ok, nmX9, by decide, wd_421⟩
theorem fF_X9_36 : ax_F RX9 36 9 3 2 := ⟨by decide, by decide, _, _, _, tyX9, rfl, ig_X9, tyX9_ok, nmX9, by decide, wd_422⟩
theorem fF_X9_43 : ax_F RX9 43 9 4 2 := ⟨by decide, by decide, _, _, _, tyX9, rfl, ig_X9, tyX9_ok, nmX9, by decide, wd_423⟩
theorem fF_X9_47 : ax_F RX9 47 9 5 2 := ⟨by decide, by decide, _, _, _, tyX9, rfl, ig_X9, tyX9_ok, nmX9, by decide, wd_424⟩
theorem fF_X9_53 : ax_F RX9 53 9 6 2 := ⟨by decide, by decide, _, _, _, tyX9, rfl, ig_X9, tyX9_ok, nmX9, by decide, wd_425⟩
theorem fF_X9_60 : ax_F RX9 60 9 7 2 := ⟨by decide, by decide, _, _, _, tyX9, rfl, ig_X9, tyX9_ok, nmX9, by decide, wd_426⟩
theorem fF_X9_67 : ax_F RX9 67 9 8 2 := ⟨by decide, by decide, _, _, _, tyX9, rfl, ig_X9, tyX9_ok, nmX9, by decide, wd_427⟩
theorem fF_X9_71 : ax_F RX9 71 8 4 0 := ⟨by decide, by decide, _, _, _, tyX8, rfl, ig_X8, tyX8_ok, nmX8, by decide, wd_215⟩
theorem fF_X9_79 : ax_F RX9 79 8 5 0 := ⟨by decide, by decide, _, _, _, tyX8, rfl, ig_X8, tyX8_ok, nmX8, by decide, wd_217⟩
theorem fF_X9_82 : ax_F RX9 82 8 6 0 := ⟨by decide, by decide, _, _, _, tyX8, rfl, ig_X8, tyX8_ok, nmX8, by decide, wd_219⟩
theorem fF_X9_85 : ax_F RX9 85 8 1 2 := ⟨by decide, by decide, _, _, _, tyX8, rfl, ig_X8, tyX8_ok, nmX8, by decide, wd_211⟩
theorem fF_X9_93 : ax_F RX9 93 5 4 0 := ⟨by decide, by decide, _, _, _, tyX5, rfl, ig_X5, tyX5_ok, nmX5, by decide, wd_253⟩
theorem fF_X9_94 : ax_F RX9 94 5 5 0 := ⟨by decide, by decide, _, _, _, tyX5, rfl, ig_X5, tyX5_ok, nmX5, by decide, wd_255⟩
theorem fF_X9_112 : ax_F RX9 112 6 5 0 := ⟨by decide, by decide, _, _, _, tyX6, rfl, ig_X6, tyX6_ok, nmX6, by decide, wd_158⟩
theorem fF_X9_115 : ax_F RX9 115 6 6 0 := ⟨by decide, by decide, _, _, _, tyX6, rfl, ig_X6, tyX6_ok, nmX6, by decide, wd_162⟩
theorem fF_X9_129 : ax_F RX9 129 6 2 2 := ⟨by decide, by decide, _, _, _, tyX6, rfl, ig_X6, tyX6_ok, nmX6, by decide, wd_146⟩
theorem fF_X9_149 : ax_F RX9 149 3 0 2 := ⟨by decide, by decide, _, _, _, tyX3, rfl, ig_X3, tyX3_ok, nmX3, by decide, wd_324⟩
theorem fF_X9_152 : ax_F RX9 152 3 2 0 := ⟨by decide, by decide, _, _, _, tyX3, rfl, ig_X3, tyX3_ok, nmX3, by decide, wd_328⟩
theorem fF_X9_163 : ax_F RX9 163 2 3 0 := ⟨by decide, by decide, _, _, _, tyX2, rfl, ig_X2, tyX2_ok, nmX2, by decide, wd_198⟩
theorem fF_X9_181 : ax_F RX9 181 0 0 2 := ⟨by decide, by decide, _, _, _, tyX0, rfl, ig_X0, tyX0_ok, nmX0, by decide, wd_301⟩
theorem fF_X9_228 : ax_F RX9 228 4 0 2 := ⟨by decide, by decide, _, _, _, tyX4, rfl, ig_X4, tyX4_ok, nmX4, by decide, wd_345⟩
theorem fF_X9_231 : ax_F RX9 231 4 1 1 := ⟨by decide, by decide, _, _, _, tyX4, rfl, ig_X4, tyX4_ok, nmX4, by decide, wd_347⟩
theorem fF_X9_239 : ax_F RX9 239 4 2 1 := ⟨by decide, by decide, _, _, _, tyX4, rfl, ig_X4, tyX4_ok, nmX4, by decide, wd_349⟩
theorem fF_X9_242 : ax_F RX9 242 4 3 0 := ⟨by decide, by decide, _, _, _, tyX4, rfl, ig_X4, tyX4_ok, nmX4, by decide, wd_351⟩
theorem fF_X9_266 : ax_F RX9 266 7 2 0 := ⟨by decide, by decide, _, _, _, tyX7, rfl, ig_X7, tyX7_ok, nmX7, by decide, wd_392⟩
theorem fF_X9_269 : ax_F RX9 269 7 1 0 := ⟨by decide, by decide, _, _, _, tyX7, rfl, ig_X7, tyX7_ok, nmX7, by decide, wd_390⟩
theorem fF_X9_275 : ax_F RX9 275 7 0 2 := ⟨by decide, by decide, _, _, _, tyX7, rfl, ig_X7, tyX7_ok, nmX7, by decide, wd_388⟩
theorem fF_X9_296 : ax_F RX9 296 4 4 1 := ⟨by decide, by decide, _, _, _, tyX4, rfl, ig_X4, tyX4_ok, nmX4, by decide, wd_353⟩
theorem fF_X0_9 : ax_F RX0 9 0 0 2 := ⟨by decide, by decide, _, _, _, tyX0, rfl, ig_X0, tyX0_ok, nmX0, by decide, wd_299⟩
theorem fF_X0_15 : ax_F RX0 15 0 1 2 := ⟨by decide, by decide, _, _, _, tyX0, rfl, ig_X0, tyX0_ok, nmX0, by decide, wd_302⟩
theorem fF_X0_18 : ax_F RX0 18 0 2 0 := ⟨by decide, by decide, _, _, _, tyX0, rfl, ig_X0, tyX0_ok, nmX0, by decide, wd_303⟩
theorem fF_X0_22 : ax_F RX0 22 0 3 0 := ⟨by decide, by decide, _, _, _, tyX0, rfl, ig_X0, tyX0_ok, nmX0, by decide, wd_304⟩
theorem fF_X0_25 : ax_F RX0 25 6 6 0 := ⟨by decide, by decide, _, _, _, tyX6, rfl, ig_X6, tyX6_ok, nmX6, by decide, wd_159⟩
theorem fF_X0_28 : ax_F RX0 28 6 5 0 := ⟨by decide, by decide, _, _, _, tyX6, rfl, ig_X6, tyX6_ok, nmX6, by decide, wd_154⟩
theorem fF_X0_29 : ax_F RX0 29 6 2 2 := ⟨by decide, by decide, _, _, _, tyX6, rfl, ig_X6, tyX6_ok, nmX6, by decide, wd_145⟩
theorem fF_X0_46 : ax_F RX0 46 3 0 2 := ⟨by decide, by decide, _, _, _, tyX3, rfl, ig_X3, tyX3_ok, nmX3, by decide, wd_323⟩
theorem fF_X1_7 : ax_F RX1 7 1 0 1 := ⟨by decide, by decide, _, _, _, tyX1, rfl, ig_X1, tyX1_ok, nmX1, by decide, wd_412⟩
theorem fF_X1_13 : ax_F RX1 13 1 1 1 := ⟨by decide, by decide, _, _, _, tyX1, rfl, ig_X1, tyX1_ok, nmX1, by decide, wd_413⟩
theorem fF_X2_9 : ax_F RX2 9 2 3 0 := ⟨by decide, by decide, _, _, _, tyX2, rfl, ig_X2, tyX2_ok, nmX2, by decide, wd_193⟩
theorem fF_X2_19 : ax_F RX2 19 2 0 0 := ⟨by decide, by decide, _, _, _, tyX2, rfl, ig_X2, tyX2_ok, nmX2, by decide, wd_189⟩
theorem fF_X2_25 : ax_F RX2 25 2 1 0 := ⟨by decide, by decide, _, _, _, tyX2, rfl, ig_X2, tyX2_ok, nmX2, by decide, wd_190⟩
theorem fF_X2_28 : ax_F RX2 28 2 2 2 := ⟨by decide, by decide, _, _, _, tyX2, rfl, ig_X2, tyX2_ok, nmX2, by decide, wd_192⟩
theorem fF_X3_9 : ax_F RX3 9 3 0 2 := ⟨by decide, by decide, _, _, _, tyX3, rfl, ig_X3, tyX3_ok, nmX3, by decide, wd_320⟩
theorem fF_X3_15 : ax_F RX3 15 3 1 0 := ⟨by decide, by decide, _, _, _, tyX3, rfl, ig_X3, tyX3_ok, nmX3, by decide, wd_325⟩
theorem fF_X3_19 : ax_F RX3 19 3 2 0 := ⟨by decide, by decide, _, _, _, tyX3, rfl, ig_X3, tyX3_ok, nmX3, by decide, wd_326⟩
theorem fF_X3_22 : ax_F RX3 22 6 5 0 := ⟨by decide, by decide, _, _, _, tyX6, rfl, ig_X6, tyX6_ok, nmX6, by decide, wd_152⟩
theorem fF_X4_9 : ax_F RX4 9 4 0 2 := ⟨by decide, by decide, _, _, _, tyX4, rfl, ig_X4, tyX4_ok, nmX4, by decide, wd_344⟩
theorem fF_X4_15 : ax_F RX4 15 4 1 1 := ⟨by decide, by decide, _, _, _, tyX4, rfl, ig_X4, tyX4_ok, nmX4, by decide, wd_346⟩
theorem fF_X4_19 : ax_F RX4 19 4 2 1 := ⟨by decide, by decide, _, _, _, tyX4, rfl, ig_X4, tyX4_ok, nmX4, by decide, wd_348⟩
theorem fF_X4_22 : ax_F RX4 22 4 3 0 := ⟨by decide, by decide, _, _, _, tyX4, rfl, ig_X4, tyX4_ok, nmX4, by decide, wd_350⟩
theorem fF_X4_26 : ax_F RX4 26 4 4 1 := ⟨by decide, by decide, _, _, _, tyX4, rfl, ig_X4, tyX4_ok, nmX4, by decide, wd_352⟩
theorem fF_X4_29 : ax_F RX4 29 4 5 2 := ⟨by decide, by decide, _, _, _, tyX4, rfl, ig_X4, tyX4_ok, nmX4, by decide, wd_354⟩
theorem fF_X4_32 : ax_F RX4 32 4 6 2 := ⟨by decide, by decide, _, _, _, tyX4, rfl, ig_X4, tyX4_ok, nmX4, by decide, wd_355⟩
theorem fF_X4_36 : ax_F RX4 36 4 7 2 := ⟨by decide, by decide, _, _, _, tyX4, rfl, ig_X4, tyX4_ok, nmX4, by decide, wd_356⟩
theorem fF_X4_42 : ax_F RX4 42 4 8 2 := ⟨by decide, by decide, _, _, _, tyX4, rfl, ig_X4, tyX4_ok, nmX4, by decide, wd_357⟩
theorem fF_X4_56 : ax_F RX4 56 6 5 0 := ⟨by decide, by decide, _, _, _, tyX6, rfl, ig_X6, tyX6_ok, nmX6, by decide, wd_156⟩
theorem fF_X4_65 : ax_F RX4 65 3 0 2 := ⟨by decide, by decide, _, _, _, tyX3, rfl, ig_X3, tyX3_ok, nmX3, by decide, wd_321⟩
theorem fF_X4_72 : ax_F RX4 72 2 3 0 := ⟨by decide, by decide, _, _, _, tyX2, rfl, ig_X2, tyX2_ok, nmX2, by decide, wd_196⟩
theorem fF_X4_107 : ax_F RX4 107 3 2 0 := ⟨by decide, by decide, _, _, _, tyX3, rfl, ig_X3, tyX3_ok, nmX3, by decide, wd_327⟩
theorem fF_X5_12 : ax_F RX5 12 5 1 2 := ⟨by decide, by decide, _, _, _, tyX5, rfl, ig_X5, tyX5_ok, nmX5, by decide, wd_247⟩
theorem fF_X5_20 : ax_F RX5 20 5 2 2 := ⟨by decide, by decide, _, _, _, tyX5, rfl, ig_X5, tyX5_ok, nmX5, by decide, wd_249⟩
theorem fF_X5_24 : ax_F RX5 24 5 3 2 := ⟨by decide, by decide, _, _, _, tyX5, rfl, ig_X5, tyX5_ok, nmX5, by decide, wd_251⟩
theorem fF_X5_28 : ax_F RX5 28 5 4 0 := ⟨by decide, by decide, _, _, _, tyX5, rfl, ig_X5, tyX5_ok, nmX5, by decide, wd_252⟩
theorem fF_X5_32 : ax_F RX5 32 5 5 0 := ⟨by decide, by decide, _, _, _, tyX5, rfl, ig_X5, tyX5_ok, nmX5, by decide, wd_254⟩
theorem fF_X5_35 : ax_F RX5 35 5 6 0 := ⟨by decide, by decide, _, _, _, tyX5, rfl, ig_X5, tyX5_ok, nmX5, by decide, wd_256⟩
theorem fF_X5_38 : ax_F RX5 38 5 7 0 := ⟨by decide, by decide, _, _, _, tyX5, rfl, ig_X5, tyX5_ok, nmX5, by decide, wd_257⟩
theorem fF_X5_41 : ax_F RX5 41 5 8 0 := ⟨by decide, by decide, _, _, _, tyX5, rfl, ig_X5, tyX5_ok, nmX5, by decide, wd_258⟩
theorem fF_X5_44 : ax_F RX5 44 5 9 0 := ⟨by decide, by decide, _, _, _, tyX5, rfl, ig_X5, tyX5_ok, nmX5, by decide, wd_259⟩
theorem fF_X5_47 : ax_F RX5 47 5 10 0 := ⟨by decide, by decide, _, _, _, tyX5, rfl, ig_X5, tyX5_ok, nmX5, by decide, wd_260⟩
theorem fF_X5_50 : ax_F RX5 50 5 11 0 := ⟨by decide, by decide, _, _, _, tyX5, rfl, ig_X5, tyX5_ok, nmX5, by decide, wd_261⟩
theorem fF_X5_53 : ax_F RX5 53 5 12 0 := ⟨by decide, by decide, _, _, _, tyX5, rfl, ig_X5, tyX5_ok, nmX5, by decide, wd_262⟩
theorem fF_X5_56 : ax_F RX5 56 5 13 0 := ⟨by decide, by decide, _, _, _, tyX5, rfl, ig_X5, tyX5_ok, nmX5, by decide, wd_263⟩
theorem fF_X5_59 : ax_F RX5 59 5 0 2 := ⟨by decide, by decide, _, _, _, tyX5, rfl, ig_X5, tyX5_ok, nmX5, by decide, wd_246⟩
theorem fF_X5_77 : ax_F RX5 77 6 5 0 := ⟨by decide, by decide, _, _, _, tyX6, rfl, ig_X6, tyX6_ok, nmX6, by decide, wd_155⟩
theorem fF_X5_80 : ax_F RX5 80 6 6 0 := ⟨by decide, by decide, _, _, _, tyX6, rfl, ig_X6, tyX6_ok, nmX6, by decide, wd_161⟩
theorem fF_X5_102 : ax_F RX5 102 2 3 0 := ⟨by decide, by decide, _, _, _, tyX2, rfl, ig_X2, tyX2_ok, nmX2, by decide, wd_195⟩
theorem fF_X5_147 : ax_F RX5 147 6 0 2 := ⟨by decide, by decide, _, _, _, tyX6, rfl, ig_X6, tyX6_ok, nmX6, by decide, wd_141⟩
theorem fF_X5_150 : ax_F RX5 150 6 1 2 := ⟨by decide, by decide, _, _, _, tyX6, rfl, ig_X6, tyX6_ok, nmX6, by decide, wd_143⟩
theorem fF_X5_153 : ax_F RX5 153 6 2 2 := ⟨by decide, by decide, _, _, _, tyX6, rfl, ig_X6, tyX6_ok, nmX6, by decide, wd_147⟩
theorem fF_X5_156 : ax_F RX5 156 6 3 2 := ⟨by decide, by decide, _, _, _, tyX6, rfl, ig_X6, tyX6_ok, nmX6, by decide, wd_149⟩
theorem fF_X5_159 : ax_F RX5 159 6 4 2 := ⟨by decide, by decide, _, _, _, tyX6, rfl, ig_X6, tyX6_ok, nmX6, by decide, wd_151⟩
theorem fF_X6_9 : ax_F RX6 9 6 0 2 := ⟨by decide, by decide, _, _, _, tyX6, rfl, ig_X6, tyX6_ok, nmX6, by decide, wd_140⟩
theorem fF_X6_15 : ax_F RX6 15 6 1 2 := ⟨by decide, by decide, _, _, _, tyX6, rfl, ig_X6, tyX6_ok, nmX6, by decide, wd_142⟩
theorem fF_X6_18 : ax_F RX6 18 6 2 2 := ⟨by decide, by decide, _, _, _, tyX6, rfl, ig_X6, tyX6_ok, nmX6, by decide, wd_144⟩
theorem fF_X6_21 : ax_F RX6 21 6 3 2 := ⟨by decide, by decide, _, _, _, tyX6, rfl, ig_X6, tyX6_ok, nmX6, by decide, wd_148⟩
theorem fF_X6_24 : ax_F RX6 24 6 4 2 := ⟨by decide, by decide, _, _, _, tyX6, rfl, ig_X6, tyX6_ok, nmX6, by decide, wd_150⟩
theorem fF_X6_30 : ax_F RX6 30 6 5 0 := ⟨by decide, by decide, _, _, _, tyX6, rfl, ig_X6, tyX6_ok, nmX6, by decide, wd_153⟩
theorem fF_X6_34 : ax_F RX6 34 6 6 0 := ⟨by decide, by decide, _, _, _, tyX6, rfl, ig_X6, tyX6_ok, nmX6, by decide, wd_160⟩
theorem fF_X7_9 : ax_F RX7 9 7 0 2 := ⟨by decide, by decide, _, _, _, tyX7, rfl, ig_X7, tyX7_ok, nmX7, by decide, wd_387⟩
theorem fF_X7_15 : ax_F RX7 15 7 1 0 := ⟨by decide, by decide, _, _, _, tyX7, rfl, ig_X7, tyX7_ok, nmX7, by decide, wd_389⟩
theorem fF_X7_19 : ax_F RX7 19 7 2 0 := ⟨by decide, by decide, _, _, _, tyX7, rfl, ig_X7, tyX7_ok, nmX7, by decide, wd_391⟩
theorem fF_X7_22 : ax_F RX7 22 7 3 2 := ⟨by decide, by decide, _, _, _, tyX7, rfl, ig_X7, tyX7_ok, nmX7, by decide, wd_393⟩
theorem fF_X7_27 : ax_F RX7 27 7 4 2 := ⟨by decide, by decide, _, _, _, tyX7, rfl, ig_X7, tyX7_ok, nmX7, by decide, wd_394⟩
theorem fF_X7_32 : ax_F RX7 32 2 3 0 := ⟨by decide, by decide, _, _, _, tyX2, rfl, ig_X2, tyX2_ok, nmX2, by decide, wd_194⟩
theorem fF_X7_66 : ax_F RX7 66 6 5 0 := ⟨by decide, by decide, _, _, _, tyX6, rfl, ig_X6, tyX6_ok, nmX6, by decide, wd_157⟩
theorem fF_X7_71 : ax_F RX7 71 3 0 2 := ⟨by decide, by decide, _, _, _, tyX3, rfl, ig_X3, tyX3_ok, nmX3, by decide, wd_322⟩
theorem fF_X7_89 : ax_F RX7 89 0 0 2 := ⟨by decide, by decide, _, _, _, tyX0, rfl, ig_X0, tyX0_ok, nmX0, by decide, wd_300⟩
theorem fF_X8_9 : ax_F RX8 9 8 0 2 := ⟨by decide, by decide, _, _, _, tyX8, rfl, ig_X8, tyX8_ok, nmX8, by decide, wd_208⟩
theorem fF_X8_15 : ax_F RX8 15 8 1 2 := ⟨by decide, by decide, _, _, _, tyX8, rfl, ig_X8, tyX8_ok, nmX8, by decide, wd_210⟩
theorem fF_X8_21 : ax_F RX8 21 8 2 2 := ⟨by decide, by decide, _, _, _, tyX8, rfl, ig_X8, tyX8_ok, nmX8, by decide, wd_212⟩
theorem fF_X8_27 : ax_F RX8 27 8 3 2 := ⟨by decide, by decide, _, _, _, tyX8, rfl, ig_X8, tyX8_ok, nmX8, by decide, wd_213⟩
theorem fF_X8_31 : ax_F RX8 31 8 4 0 := ⟨by decide, by decide, _, _, _, tyX8, rfl, ig_X8, tyX8_ok, nmX8, by decide, wd_214⟩
theorem fF_X8_35 : ax_F RX8 35 8 5 0 := ⟨by decide, by decide, _, _, _, tyX8, rfl, ig_X8, tyX8_ok, nmX8, by decide, wd_216⟩
theorem fF_X8_38 : ax_F RX8 38 8 6 0 := ⟨by decide, by decide, _, _, _, tyX8, rfl, ig_X8, tyX8_ok, nmX8, by decide, wd_218⟩
theorem fF_X8_49 : ax_F RX8 49 2 3 0 := ⟨by decide, by decide, _, _, _, tyX2, rfl, ig_X2, tyX2_ok, nmX2, by decide, wd_197⟩
theorem fF_X8_56 : ax_F RX8 56 2 1 0 := ⟨by decide, by decide, _, _, _, tyX2, rfl, ig_X2, tyX2_ok, nmX2, by decide, wd_191⟩
theorem fF_X8_68 : ax_F RX8 68 5 1 2 := ⟨by decide, by decide, _, _, _, tyX5, rfl, ig_X5, tyX5_ok, nmX5, by decide, wd_248⟩
theorem fF_X8_78 : ax_F RX8 78 5 2 2 := ⟨by decide, by decide, _, _, _, tyX5, rfl, ig_X5, tyX5_ok, nmX5, by decide, wd_250⟩
theorem fF_X10_7 : ax_F RX10 7 10 1 2 := ⟨by decide, by decide, _, _, _, tyX10, rfl, ig_X10, tyX10_ok, nmX10, by decide, wd_1054⟩
theorem fF_X10_13 : ax_F RX10 13 10 2 2 := ⟨by decide, by decide, _, _, _, tyX10, rfl, ig_X10, tyX10_ok, nmX10, by decide, wd_1055⟩
theorem fF_X10_17 : ax_F RX10 17 10 3 2 := ⟨by decide, by decide, _, _, _, tyX10, rfl, ig_X10, tyX10_ok, nmX10, by decide, wd_1056⟩
theorem fF_X10_20 : ax_F RX10 20 10 4 2 := ⟨by decide, by decide, _, _, _, tyX10, rfl, ig_X10, tyX10_ok, nmX10, by decide, wd_1057⟩
theorem fF_X10_23 : ax_F RX10 23 10 5 2 := ⟨by decide, by decide, _, _, _, tyX10, rfl, ig_X10, tyX10_ok, nmX10, by decide, wd_1058⟩
theorem fF_X10_26 : ax_F RX10 26 10 6 2 := ⟨by decide, by decide, _, _, _, tyX10, rfl, ig_X10, tyX10_ok, nmX10, by decide, wd_1059⟩
theorem fF_X10_29 : ax_F RX10 29 10 7 2 := ⟨by decide, by decide, _, _, _, tyX10, rfl, ig_X10, tyX10_ok, nmX10, by decide, wd_1060⟩
theorem fF_X10_32 : ax_F RX10 32 10 8 2 := ⟨by decide, by decide, _, _, _, tyX10, rfl, ig_X10, tyX10_ok, nmX10, by decide, wd_1061⟩
theorem fF_X10_35 : ax_F RX10 35 10 9 2 := ⟨by decide, by decide, _, _, _, tyX10, rfl, ig_X10, tyX10_ok, nmX10, by decide, wd_1062⟩
theorem fF_X10_38 : ax_F RX10 38 10 10 2 := ⟨by decide, by decide, _, _, _, tyX10, rfl, ig_X10, tyX10_ok, nmX10, by decide, wd_1063⟩
theorem fF_X10_41 : ax_F RX10 41 10 20 2 := ⟨by decide, by decide, _, _, _, tyX10, rfl, ig_X10, tyX10_ok, nmX10, by decide, wd_1073⟩
theorem fF_X10_44 : ax_F RX10 44 10 21 2 := ⟨by decide, by decide, _, _, _, tyX10, rfl, ig_X10, tyX10_ok, nmX10, by decide, wd_1074⟩
theorem fF_X10_47 : ax_F RX10 47 10 28 2 := ⟨by decide, by decide, _, _, _, tyX10, rfl, ig_X10, tyX10_ok, nmX10, by decide, wd_1081⟩
theorem fF_X10_50 : ax_F RX10 50 10 29 2 := ⟨by decide, by decide, _, _, _, tyX10, rfl, ig_X10, tyX10_ok, nmX10, by decide, wd_1082⟩
theorem fF_X10_53 : ax_F RX10 53 10 30 2 := ⟨by decide, by decide, _, _, _, tyX10, rfl, ig_X10, tyX10_ok, nmX10, by decide, wd_1083⟩
theorem fF_X10_56 : ax_F RX10 56 10 31 2 := ⟨by decide, by decide, _, _, _, tyX10, rfl, ig_X10, tyX10_ok, nmX10, by decide, wd_1084⟩
theorem fF_X10_59 : ax_F RX10 59 10 40 2 := ⟨by decide, by decide, _, _, _, tyX10, rfl, ig_X10, tyX10_ok, nmX10, by decide, wd_1093⟩
theorem fF_X10_62 : ax_F RX10 62 10 43 2 := ⟨by decide, by decide, _, _, _, tyX10, rfl, ig_X10, tyX10_ok, nmX10, by decide, wd_1096⟩
theorem fF_X10_66 : ax_F RX10 66 10 44 2 := ⟨by decide, by decide, _, _, _, tyX10, rfl, ig_X10, tyX10_ok, nmX10, by decide, wd_1097⟩
theorem fF_X10_69 : ax_F RX10 69 10 48 2 := ⟨by decide, by decide, _, _, _, tyX10, rfl, ig_X10, tyX10_ok, nmX10, by decide, wd_1101⟩
theorem fF_X10_72 : ax_F RX10 72 10 52 2 := ⟨by decide, by decide, _, _, _, tyX10, rfl, ig_X10, tyX10_ok, nmX10, by decide, wd_1105⟩
theorem fF_X10_75 : ax_F RX10 75 10 53 2 := ⟨by decide, by decide, _, _, _, tyX10, rfl, ig_X10, tyX10_ok, nmX10, by decide, wd_1106⟩
theorem fF_X10_78 : ax_F RX10 78 10 54 2 := ⟨by decide, by decide, _, _, _, tyX10, rfl, ig_X10, tyX10_ok, nmX10, by decide, wd_1107⟩
theorem fF_X10_81 : ax_F RX10 81 10 55 2 := ⟨by decide, by decide, _, _, _, tyX10, rfl, ig_X10, tyX10_ok, nmX10, by decide, wd_1108⟩
theorem fF_X10_84 : ax_F RX10 84 10 58 2 := ⟨by decide, by decide, _, _, _, tyX10, rfl, ig_X10, tyX10_ok, nmX10, by decide, wd_1111⟩
theorem fF_X10_88 : ax_F RX10 88 10 0 0 := ⟨by decide, by decide, _, _, _, tyX10, rfl, ig_X10, tyX10_ok, nmX10, by decide, wd_1053⟩
theorem fF_X10_104 : ax_F RX10 104 10 11 0 := ⟨by decide, by decide, _, _, _, tyX10, rfl, ig_X10, tyX10_ok, nmX10, by decide, wd_1064⟩
theorem fF_X10_107 : ax_F RX10 107 10 12 0 := ⟨by decide, by decide, _, _, _, tyX10, rfl, ig_X10, tyX10_ok, nmX10, by decide, wd_1065⟩
theorem fF_X10_114 : ax_F RX10 114 10 13 0 := ⟨by decide, by decide, _, _, _, tyX10, rfl, ig_X10, tyX10_ok, nmX10, by decide, wd_1066⟩
theorem fF_X10_117 : ax_F RX10 117 10 16 1 := ⟨by decide, by decide, _, _, _, tyX10, rfl, ig_X10, tyX10_ok, nmX10, by decide, wd_1069⟩
theorem fF_X10_121 : ax_F RX10 121 10 14 0 := ⟨by decide, by decide, _, _, _, tyX10, rfl, ig_X10, tyX10_ok, nmX10, by decide, wd_1067⟩
theorem fF_X10_124 : ax_F RX10 124 10 15 0 := ⟨by decide, by decide, _, _, _, tyX10, rfl, ig_X10, tyX10_ok, nmX10, by decide, wd_1068⟩
theorem fF_X10_127 : ax_F RX10 127 10 17 0 := ⟨by decide, by decide, _, _, _, tyX10, rfl, ig_X10, tyX10_ok, nmX10, by decide, wd_1070⟩
theorem fF_X10_130 : ax_F RX10 130 10 18 0 := ⟨by decide, by decide, _, _, _, tyX10, rfl, ig_X10, tyX10_ok, nmX10, by decide, wd_1071⟩
theorem fF_X10_133 : ax_F RX10 133 10 19 0 := ⟨by decide, by decide, _, _, _, tyX10, rfl, ig_X10, tyX10_ok, nmX10, by decide, wd_1072⟩
theorem fF_X10_144 : ax_F RX10 144 10 24 0 := ⟨by decide, by decide, _, _, _, tyX10, rfl, ig_X10, tyX10_ok, nmX10, by decide, wd_1077⟩
theorem fF_X10_160 : ax_F RX10 160 10 23 0 := ⟨by decide, by decide, _, _, _, tyX10, rfl, ig_X10, tyX10_ok, nmX10, by decide, wd_1076⟩
theorem fF_X10_167 : ax_F RX10 167 10 22 0 := ⟨by decide, by decide, _, _, _, tyX10, rfl, ig_X10, tyX10_ok, nmX10, by decide, wd_1075⟩
theorem fF_X10_244 : ax_F RX10 244 10 25 0 := ⟨by decide, by decide, _, _, _, tyX10, rfl, ig_X10, tyX10_ok, nmX10, by decide, wd_1078⟩
theorem fF_X10_247 : ax_F RX10 247 10 34 0 := ⟨by decide, by decide, _, _, _, tyX10, rfl, ig_X10, tyX10_ok, nmX10, by decide, wd_1087⟩
theorem fF_X10_250 : ax_F RX10 250 10 35 0 := ⟨by decide, by decide, _, _, _, tyX10, rfl, ig_X10, tyX10_ok, nmX10, by decide, wd_1088⟩
theorem fF_X10_263 : ax_F RX10 263 10 26 0 := ⟨by decide, by decide, _, _, _, tyX10, rfl, ig_X10, tyX10_ok, nmX10, by decide, wd_1079⟩
theorem fF_X10_273 : ax_F RX10 273 10 33 0 := ⟨by decide, by decide, _, _, _, tyX10, rfl, ig_X10, tyX10_ok, nmX10, by decide, wd_1086⟩
theorem fF_X10_276 : ax_F RX10 276 10 27 0 := ⟨by decide, by decide, _, _, _, tyX10, rfl, ig_X10, tyX10_ok, nmX10, by decide, wd_1080⟩
theorem fF_X10_279 : ax_F RX10 279 10 32 0 := ⟨by decide, by decide, _, _, _, tyX10, rfl, ig_X10, tyX10_ok, nmX10, by decide, wd_1085⟩
theorem fF_X10_312 : ax_F RX10 312 10 36 0 := ⟨by decide, by decide, _, _, _, tyX10, rfl, ig_X10, tyX10_ok, nmX10, by decide, wd_1089⟩
theorem fF_X10_321 : ax_F RX10 321 10 37 1 := ⟨by decide, by decide, _, _, _, tyX10, rfl, ig_X10, tyX10_ok, nmX10, by decide, wd_1090⟩
theorem fF_X10_324 : ax_F RX10 324 10 38 1 := ⟨by decide, by decide, _, _, _, tyX10, rfl, ig_X10, tyX10_ok, nmX10, by decide, wd_1091⟩
theorem fF_X10_335 : ax_F RX10 335 10 39 0 := ⟨by decide, by decide, _, _, _, tyX10, rfl, ig_X10, tyX10_ok, nmX10, by decide, wd_1092⟩
theorem fF_X10_365 : ax_F RX10 365 10 41 0 := ⟨by decide, by decide, _, _, _, tyX10, rfl, ig_X10, tyX10_ok, nmX10, by decide, wd_1094⟩
theorem fF_X10_368 : ax_F RX10 368 10 45 0 := ⟨by decide, by decide, _, _, _, tyX10, rfl, ig_X10, tyX10_ok, nmX10, by decide, wd_1098⟩
theorem fF_X10_374 : ax_F RX10 374 10 42 0 := ⟨by decide, by decide, _, _, _, tyX10, rfl, ig_X10, tyX10_ok, nmX10, by decide, wd_1095⟩
theorem fF_X10_398 : ax_F RX10 398 10 46 1 := ⟨by decide, by decide, _, _, _, tyX10, rfl, ig_X10, tyX10_ok, nmX10, by decide, wd_1099⟩
theorem fF_X10_413 : ax_F RX10 413 10 47 0 := ⟨by decide, by decide, _, _, _, tyX10, rfl, ig_X10, tyX10_ok, nmX10, by decide, wd_1100⟩
theorem fF_X10_440 : ax_F RX10 440 10 49 0 := ⟨by decide, by decide, _, _, _, tyX10, rfl, ig_X10, tyX10_ok, nmX10, by decide, wd_1102⟩
theorem fF_X10_449 : ax_F RX10 449 10 51 0 := ⟨by decide, by decide, _, _, _, tyX10, rfl, ig_X10, tyX10_ok, nmX10, by decide, wd_1104⟩
theorem fF_X10_455 : ax_F RX10 455 10 50 0 := ⟨by decide, by decide, _, _, _, tyX10, rfl, ig_X10, tyX10_ok, nmX10, by decide, wd_1103⟩
theorem fF_X10_470 : ax_F RX10 470 10 57 1 := ⟨by decide, by decide, _, _, _, tyX10, rfl, ig_X10, tyX10_ok, nmX10, by decide, wd_1110⟩
theorem fF_X10_473 : ax_F RX10 473 10 56 1 := ⟨by decide, by decide, _, _, _, tyX10, rfl, ig_X10, tyX10_ok, nmX10, by decide, wd_1109⟩
theorem fW_X0_15_i : ax_Fw RX0 "<init>" 0 1 (.array .int) := fun _ _ _ h => by cases h; exact ⟨Or.inr ⟨rfl, rfl, rfl⟩, tyX0_ok _ (by decide)⟩
theorem fW_X0_18_a {nm : String} : ax_Fw RX0 nm 0 2 .int := fun _ _ _ h => by cases h; exact ⟨Or.inl rfl, tyX0_ok _ (by decide)⟩
theorem fW_X0_22_a {nm : String} : ax_Fw RX0 nm 0 3 .int := fun _ _ _ h => by cases h; exact ⟨Or.inl rfl, tyX0_ok _ (by decide)⟩
theorem fW_X0_9_i : ax_Fw RX0 "<init>" 0 0 (.array .int) := fun _ _ _ h => by cases h; exact ⟨Or.inr ⟨rfl, rfl, rfl⟩, tyX0_ok _ (by decide)⟩
theorem fW_X10_104_a {nm : String} : ax_Fw RX10 nm 10 11 .int := fun _ _ _ h => by cases h; exact ⟨Or.inl rfl, tyX10_ok _ (by decide)⟩
theorem fW_X10_107_a {nm : String} : ax_Fw RX10 nm 10 12 .int := fun _ _ _ h => by cases h; exact ⟨Or.inl rfl, tyX10_ok _ (by decide)⟩
theorem fW_X10_114_a {nm : String} : ax_Fw RX10 nm 10 13 .int := fun _ _ _ h => by cases h; exact ⟨Or.inl rfl, tyX10_ok _ (by decide)⟩
theorem fW_X10_117_a {nm : String} : ax_Fw RX10 nm 10 16 .long := fun _ _ _ h => by cases h; exact ⟨Or.inl rfl, tyX10_ok _ (by decide)⟩
theorem fW_X10_121_a {nm : String} : ax_Fw RX10 nm 10 14 .int := fun _ _ _ h => by cases h; exact ⟨Or.inl rfl, tyX10_ok _ (by decide)⟩
theorem fW_X10_124_a {nm : String} : ax_Fw RX10 nm 10 15 .int := fun _ _ _ h => by cases h; exact ⟨Or.inl rfl, tyX10_ok _ (by decide)⟩
theorem fW_X10_127_a {nm : String} : ax_Fw RX10 nm 10 17 .int := fun _ _ _ h => by cases h; exact ⟨Or.inl rfl, tyX10_ok _ (by decide)⟩
theorem fW_X10_130_a {nm : String} : ax_Fw RX10 nm 10 18 .int := fun _ _ _ h => by cases h; exact ⟨Or.inl rfl, tyX10_ok _ (by decide)⟩
theorem fW_X10_133_a {nm : String} : ax_Fw RX10 nm 10 19 .int := fun _ _ _ h => by cases h; exact ⟨Or.inl rfl, tyX10_ok _ (by decide)⟩
theorem fW_X10_13_i : ax_Fw RX10 "<init>" 10 2 (.array .int) := fun _ _ _ h => by cases h; exact ⟨Or.inr ⟨rfl, rfl, rfl⟩, tyX10_ok _ (by decide)⟩
theorem fW_X10_144_a {nm : String} : ax_Fw RX10 nm 10 24 .boolean := fun _ _ _ h => by cases h; exact ⟨Or.inl rfl, tyX10_ok _ (by decide)⟩
theorem fW_X10_160_a {nm : String} : ax_Fw RX10 nm 10 23 .int := fun _ _ _ h => by cases h; exact ⟨Or.inl rfl, tyX10_ok _ (by decide)⟩
theorem fW_X10_167_a {nm : String} : ax_Fw RX10 nm 10 22 .int := fun _ _ _ h => by cases h; exact ⟨Or.inl rfl, tyX10_ok _ (by decide)⟩
theorem fW_X10_17_i : ax_Fw RX10 "<init>" 10 3 (.array .int) := fun _ _ _ h => by cases h; exact ⟨Or.inr ⟨rfl, rfl, rfl⟩, tyX10_ok _ (by decide)⟩
theorem fW_X10_20_i : ax_Fw RX10 "<init>" 10 4 (.array .int) := fun _ _ _ h => by cases h; exact ⟨Or.inr ⟨rfl, rfl, rfl⟩, tyX10_ok _ (by decide)⟩
theorem fW_X10_23_i : ax_Fw RX10 "<init>" 10 5 (.array .int) := fun _ _ _ h => by cases h; exact ⟨Or.inr ⟨rfl, rfl, rfl⟩, tyX10_ok _ (by decide)⟩
theorem fW_X10_244_a {nm : String} : ax_Fw RX10 nm 10 25 .int := fun _ _ _ h => by cases h; exact ⟨Or.inl rfl, tyX10_ok _ (by decide)⟩
theorem fW_X10_247_a {nm : String} : ax_Fw RX10 nm 10 34 .int := fun _ _ _ h => by cases h; exact ⟨Or.inl rfl, tyX10_ok _ (by decide)⟩
theorem fW_X10_250_a {nm : String} : ax_Fw RX10 nm 10 35 .int := fun _ _ _ h => by cases h; exact ⟨Or.inl rfl, tyX10_ok _ (by decide)⟩
theorem fW_X10_263_a {nm : String} : ax_Fw RX10 nm 10 26 .int := fun _ _ _ h => by cases h; exact ⟨Or.inl rfl, tyX10_ok _ (by decide)⟩
theorem fW_X10_26_i : ax_Fw RX10 "<init>" 10 6 (.array .int) := fun _ _ _ h => by cases h; exact ⟨Or.inr ⟨rfl, rfl, rfl⟩, tyX10_ok _ (by decide)⟩
theorem fW_X10_273_a {nm : String} : ax_Fw RX10 nm 10 33 .int := fun _ _ _ h => by cases h; exact ⟨Or.inl rfl, tyX10_ok _ (by decide)⟩
theorem fW_X10_276_a {nm : String} : ax_Fw RX10 nm 10 27 .int := fun _ _ _ h => by cases h; exact ⟨Or.inl rfl, tyX10_ok _ (by decide)⟩
theorem fW_X10_279_a {nm : String} : ax_Fw RX10 nm 10 32 .int := fun _ _ _ h => by cases h; exact ⟨Or.inl rfl, tyX10_ok _ (by decide)⟩
theorem fW_X10_29_i : ax_Fw RX10 "<init>" 10 7 (.array .int) := fun _ _ _ h => by cases h; exact ⟨Or.inr ⟨rfl, rfl, rfl⟩, tyX10_ok _ (by decide)⟩
theorem fW_X10_312_a {nm : String} : ax_Fw RX10 nm 10 36 .int := fun _ _ _ h => by cases h; exact ⟨Or.inl rfl, tyX10_ok _ (by decide)⟩
theorem fW_X10_321_a {nm : String} : ax_Fw RX10 nm 10 37 .long := fun _ _ _ h => by cases h; exact ⟨Or.inl rfl, tyX10_ok _ (by decide)⟩
theorem fW_X10_324_a {nm : String} : ax_Fw RX10 nm 10 38 .long := fun _ _ _ h => by cases h; exact ⟨Or.inl rfl, tyX10_ok _ (by decide)⟩
theorem fW_X10_32_i : ax_Fw RX10 "<init>" 10 8 (.array .int) := fun _ _ _ h => by cases h; exact ⟨Or.inr ⟨rfl, rfl, rfl⟩, tyX10_ok _ (by decide)⟩
theorem fW_X10_335_a {nm : String} : ax_Fw RX10 nm 10 39 .int := fun _ _ _ h => by cases h; exact ⟨Or.inl rfl, tyX10_ok _ (by decide)⟩
theorem fW_X10_35_i : ax_Fw RX10 "<init>" 10 9 (.array .int) := fun _ _ _ h => by cases h; exact ⟨Or.inr ⟨rfl, rfl, rfl⟩, tyX10_ok _ (by decide)⟩
theorem fW_X10_365_a {nm : String} : ax_Fw RX10 nm 10 41 .int := fun _ _ _ h => by cases h; exact ⟨Or.inl rfl, tyX10_ok _ (by decide)⟩
theorem fW_X10_368_a {nm : String} : ax_Fw RX10 nm 10 45 .boolean := fun _ _ _ h => by cases h; exact ⟨Or.inl rfl, tyX10_ok _ (by decide)⟩
theorem fW_X10_374_a {nm : String} : ax_Fw RX10 nm 10 42 .int := fun _ _ _ h => by cases h; exact ⟨Or.inl rfl, tyX10_ok _ (by decide)⟩
theorem fW_X10_38_i : ax_Fw RX10 "<init>" 10 10 (.array .int) := fun _ _ _ h => by cases h; exact ⟨Or.inr ⟨rfl, rfl, rfl⟩, tyX10_ok _ (by decide)⟩
theorem fW_X10_398_a {nm : String} : ax_Fw RX10 nm 10 46 .long := fun _ _ _ h => by cases h; exact ⟨Or.inl rfl, tyX10_ok _ (by decide)⟩
theorem fW_X10_413_a {nm : String} : ax_Fw RX10 nm 10 47 .int := fun _ _ _ h => by cases h; exact ⟨Or.inl rfl, tyX10_ok _ (by decide)⟩
theorem fW_X10_41_i : ax_Fw RX10 "<init>" 10 20 (.array .int) := fun _ _ _ h => by cases h; exact ⟨Or.inr ⟨rfl, rfl, rfl⟩, tyX10_ok _ (by decide)⟩
theorem fW_X10_440_a {nm : String} : ax_Fw RX10 nm 10 49 .int := fun _ _ _ h => by cases h; exact ⟨Or.inl rfl, tyX10_ok _ (by decide)⟩
theorem fW_X10_449_a {nm : String} : ax_Fw RX10 nm 10 51 .int := fun _ _ _ h => by cases h; exact ⟨Or.inl rfl, tyX10_ok _ (by decide)⟩
theorem fW_X10_44_i : ax_Fw RX10 "<init>" 10 21 (.array .int) := fun _ _ _ h => by cases h; exact ⟨Or.inr ⟨rfl, rfl, rfl⟩, tyX10_ok _ (by decide)⟩
theorem fW_X10_455_a {nm : String} : ax_Fw RX10 nm 10 50 .int := fun _ _ _ h => by cases h; exact ⟨Or.inl rfl, tyX10_ok _ (by decide)⟩
theorem fW_X10_470_a {nm : String} : ax_Fw RX10 nm 10 57 .long := fun _ _ _ h => by cases h; exact ⟨Or.inl rfl, tyX10_ok _ (by decide)⟩
theorem fW_X10_473_a {nm : String} : ax_Fw RX10 nm 10 56 .long := fun _ _ _ h => by cases h; exact ⟨Or.inl rfl, tyX10_ok _ (by decide)⟩
theorem fW_X10_47_i : ax_Fw RX10 "<init>" 10 28 (.array .int) := fun _ _ _ h => by cases h; exact ⟨Or.inr ⟨rfl, rfl, rfl⟩, tyX10_ok _ (by decide)⟩
theorem fW_X10_50_i : ax_Fw RX10 "<init>" 10 29 (.array .int) := fun _ _ _ h => by cases h; exact ⟨Or.inr ⟨rfl, rfl, rfl⟩, tyX10_ok _ (by decide)⟩
theorem fW_X10_53_i : ax_Fw RX10 "<init>" 10 30 (.array .int) := fun _ _ _ h => by cases h; exact ⟨Or.inr ⟨rfl, rfl, rfl⟩, tyX10_ok _ (by decide)⟩
theorem fW_X10_56_i : ax_Fw RX10 "<init>" 10 31 (.array .int) := fun _ _ _ h => by cases h; exact ⟨Or.inr ⟨rfl, rfl, rfl⟩, tyX10_ok _ (by decide)⟩
theorem fW_X10_59_i : ax_Fw RX10 "<init>" 10 40 (.array .int) := fun _ _ _ h => by cases h; exact ⟨Or.inr ⟨rfl, rfl, rfl⟩, tyX10_ok _ (by decide)⟩
theorem fW_X10_62_i : ax_Fw RX10 "<init>" 10 43 (.array .long) := fun _ _ _ h => by cases h; exact ⟨Or.inr ⟨rfl, rfl, rfl⟩, tyX10_ok _ (by decide)⟩
theorem fW_X10_66_i : ax_Fw RX10 "<init>" 10 44 (.array .int) := fun _ _ _ h => by cases h; exact ⟨Or.inr ⟨rfl, rfl, rfl⟩, tyX10_ok _ (by decide)⟩
theorem fW_X10_69_i : ax_Fw RX10 "<init>" 10 48 (.array .int) := fun _ _ _ h => by cases h; exact ⟨Or.inr ⟨rfl, rfl, rfl⟩, tyX10_ok _ (by decide)⟩
theorem fW_X10_72_i : ax_Fw RX10 "<init>" 10 52 (.array .int) := fun _ _ _ h => by cases h; exact ⟨Or.inr ⟨rfl, rfl, rfl⟩, tyX10_ok _ (by decide)⟩
theorem fW_X10_75_i : ax_Fw RX10 "<init>" 10 53 (.array .int) := fun _ _ _ h => by cases h; exact ⟨Or.inr ⟨rfl, rfl, rfl⟩, tyX10_ok _ (by decide)⟩
theorem fW_X10_78_i : ax_Fw RX10 "<init>" 10 54 (.array .int) := fun _ _ _ h => by cases h; exact ⟨Or.inr ⟨rfl, rfl, rfl⟩, tyX10_ok _ (by decide)⟩
theorem fW_X10_7_i : ax_Fw RX10 "<init>" 10 1 (.array .byte) := fun _ _ _ h => by cases h; exact ⟨Or.inr ⟨rfl, rfl, rfl⟩, tyX10_ok _ (by decide)⟩
theorem fW_X10_81_i : ax_Fw RX10 "<init>" 10 55 (.array .int) := fun _ _ _ h => by cases h; exact ⟨Or.inr ⟨rfl, rfl, rfl⟩, tyX10_ok _ (by decide)⟩
theorem fW_X10_84_i : ax_Fw RX10 "<init>" 10 58 (.array .boolean) := fun _ _ _ h => by cases h; exact ⟨Or.inr ⟨rfl, rfl, rfl⟩, tyX10_ok _ (by decide)⟩
theorem fW_X10_88_a {nm : String} : ax_Fw RX10 nm 10 0 .int := fun _ _ _ h => by cases h; exact ⟨Or.inl rfl, tyX10_ok _ (by decide)⟩
theorem fW_X1_13_a {nm : String} : ax_Fw RX1 nm 1 1 .long := fun _ _ _ h => by cases h; exact ⟨Or.inl rfl, tyX1_ok _ (by decide)⟩
theorem fW_X1_7_a {nm : String} : ax_Fw RX1 nm 1 0 .long := fun _ _ _ h => by cases h; exact ⟨Or.inl rfl, tyX1_ok _ (by decide)⟩
theorem fW_X2_19_i : ax_Fw RX2 "<init>" 2 0 .int := fun _ _ _ h => by cases h; exact ⟨Or.inr ⟨rfl, rfl, rfl⟩, tyX2_ok _ (by decide)⟩
theorem fW_X2_25_i : ax_Fw RX2 "<init>" 2 1 .int := fun _ _ _ h => by cases h; exact ⟨Or.inr ⟨rfl, rfl, rfl⟩, tyX2_ok _ (by decide)⟩
theorem fW_X2_28_i : ax_Fw RX2 "<init>" 2 2 (.array .int) := fun _ _ _ h => by cases h; exact ⟨Or.inr ⟨rfl, rfl, rfl⟩, tyX2_ok _ (by decide)⟩
theorem fW_X2_9_a {nm : String} : ax_Fw RX2 nm 2 3 .int := fun _ _ _ h => by cases h; exact ⟨Or.inl rfl, tyX2_ok _ (by decide)⟩
theorem fW_X3_15_a {nm : String} : ax_Fw RX3 nm 3 1 .int := fun _ _ _ h => by cases h; exact ⟨Or.inl rfl, tyX3_ok _ (by decide)⟩
theorem fW_X3_19_a {nm : String} : ax_Fw RX3 nm 3 2 .int := fun _ _ _ h => by cases h; exact ⟨Or.inl rfl, tyX3_ok _ (by decide)⟩
theorem fW_X3_9_i : ax_Fw RX3 "<init>" 3 0 (.array .int) := fun _ _ _ h => by cases h; exact ⟨Or.inr ⟨rfl, rfl, rfl⟩, tyX3_ok _ (by decide)⟩
theorem fW_X4_15_a {nm : String} : ax_Fw RX4 nm 4 1 .long := fun _ _ _ h => by cases h; exact ⟨Or.inl rfl, tyX4_ok _ (by decide)⟩
theorem fW_X4_19_a {nm : String} : ax_Fw RX4 nm 4 2 .long := fun _ _ _ h => by cases h; exact ⟨Or.inl rfl, tyX4_ok _ (by decide)⟩
theorem fW_X4_22_a {nm : String} : ax_Fw RX4 nm 4 3 .int := fun _ _ _ h => by cases h; exact ⟨Or.inl rfl, tyX4_ok _ (by decide)⟩
theorem fW_X4_26_a {nm : String} : ax_Fw RX4 nm 4 4 .long := fun _ _ _ h => by cases h; exact ⟨Or.inl rfl, tyX4_ok _ (by decide)⟩
theorem fW_X4_29_i : ax_Fw RX4 "<init>" 4 5 (.array .int) := fun _ _ _ h => by cases h; exact ⟨Or.inr ⟨rfl, rfl, rfl⟩, tyX4_ok _ (by decide)⟩
theorem fW_X4_32_i : ax_Fw RX4 "<init>" 4 6 (.array .long) := fun _ _ _ h => by cases h; exact ⟨Or.inr ⟨rfl, rfl, rfl⟩, tyX4_ok _ (by decide)⟩
theorem fW_X4_36_i : ax_Fw RX4 "<init>" 4 7 (.array .long) := fun _ _ _ h => by cases h; exact ⟨Or.inr ⟨rfl, rfl, rfl⟩, tyX4_ok _ (by decide)⟩
theorem fW_X4_42_i : ax_Fw RX4 "<init>" 4 8 (.object "GluedHour$Odds") := fun _ _ _ h => by cases h; exact ⟨Or.inr ⟨rfl, rfl, rfl⟩, tyX4_ok _ (by decide)⟩
theorem fW_X4_9_i : ax_Fw RX4 "<init>" 4 0 (.array .int) := fun _ _ _ h => by cases h; exact ⟨Or.inr ⟨rfl, rfl, rfl⟩, tyX4_ok _ (by decide)⟩
theorem fW_X5_102_a {nm : String} : ax_Fw RX5 nm 2 3 .int := fun _ _ _ h => by cases h; exact ⟨Or.inl rfl, tyX2_ok _ (by decide)⟩
theorem fW_X5_12_i : ax_Fw RX5 "<init>" 5 1 (.object "GluedHour$Republic") := fun _ _ _ h => by cases h; exact ⟨Or.inr ⟨rfl, rfl, rfl⟩, tyX5_ok _ (by decide)⟩
theorem fW_X5_20_i : ax_Fw RX5 "<init>" 5 2 (.array (.object "GluedHour$Lines")) := fun _ _ _ h => by cases h; exact ⟨Or.inr ⟨rfl, rfl, rfl⟩, tyX5_ok _ (by decide)⟩
theorem fW_X5_24_i : ax_Fw RX5 "<init>" 5 3 (.array .int) := fun _ _ _ h => by cases h; exact ⟨Or.inr ⟨rfl, rfl, rfl⟩, tyX5_ok _ (by decide)⟩
theorem fW_X5_28_a {nm : String} : ax_Fw RX5 nm 5 4 .int := fun _ _ _ h => by cases h; exact ⟨Or.inl rfl, tyX5_ok _ (by decide)⟩
theorem fW_X5_32_a {nm : String} : ax_Fw RX5 nm 5 5 .int := fun _ _ _ h => by cases h; exact ⟨Or.inl rfl, tyX5_ok _ (by decide)⟩
theorem fW_X5_35_a {nm : String} : ax_Fw RX5 nm 5 6 .int := fun _ _ _ h => by cases h; exact ⟨Or.inl rfl, tyX5_ok _ (by decide)⟩
theorem fW_X5_38_a {nm : String} : ax_Fw RX5 nm 5 7 .int := fun _ _ _ h => by cases h; exact ⟨Or.inl rfl, tyX5_ok _ (by decide)⟩
theorem fW_X5_41_a {nm : String} : ax_Fw RX5 nm 5 8 .int := fun _ _ _ h => by cases h; exact ⟨Or.inl rfl, tyX5_ok _ (by decide)⟩
theorem fW_X5_44_a {nm : String} : ax_Fw RX5 nm 5 9 .int := fun _ _ _ h => by cases h; exact ⟨Or.inl rfl, tyX5_ok _ (by decide)⟩
theorem fW_X5_47_a {nm : String} : ax_Fw RX5 nm 5 10 .int := fun _ _ _ h => by cases h; exact ⟨Or.inl rfl, tyX5_ok _ (by decide)⟩
theorem fW_X5_50_a {nm : String} : ax_Fw RX5 nm 5 11 .int := fun _ _ _ h => by cases h; exact ⟨Or.inl rfl, tyX5_ok _ (by decide)⟩
theorem fW_X5_53_a {nm : String} : ax_Fw RX5 nm 5 12 .int := fun _ _ _ h => by cases h; exact ⟨Or.inl rfl, tyX5_ok _ (by decide)⟩
theorem fW_X5_56_a {nm : String} : ax_Fw RX5 nm 5 13 .int := fun _ _ _ h => by cases h; exact ⟨Or.inl rfl, tyX5_ok _ (by decide)⟩
theorem fW_X5_59_i : ax_Fw RX5 "<init>" 5 0 (.array .byte) := fun _ _ _ h => by cases h; exact ⟨Or.inr ⟨rfl, rfl, rfl⟩, tyX5_ok _ (by decide)⟩
theorem fW_X5_77_a {nm : String} : ax_Fw RX5 nm 6 5 .int := fun _ _ _ h => by cases h; exact ⟨Or.inl rfl, tyX6_ok _ (by decide)⟩
theorem fW_X5_80_a {nm : String} : ax_Fw RX5 nm 6 6 .int := fun _ _ _ h => by cases h; exact ⟨Or.inl rfl, tyX6_ok _ (by decide)⟩
theorem fW_X6_15_i : ax_Fw RX6 "<init>" 6 1 (.array .int) := fun _ _ _ h => by cases h; exact ⟨Or.inr ⟨rfl, rfl, rfl⟩, tyX6_ok _ (by decide)⟩
theorem fW_X6_18_i : ax_Fw RX6 "<init>" 6 2 (.array .int) := fun _ _ _ h => by cases h; exact ⟨Or.inr ⟨rfl, rfl, rfl⟩, tyX6_ok _ (by decide)⟩
theorem fW_X6_21_i : ax_Fw RX6 "<init>" 6 3 (.array .int) := fun _ _ _ h => by cases h; exact ⟨Or.inr ⟨rfl, rfl, rfl⟩, tyX6_ok _ (by decide)⟩
theorem fW_X6_24_i : ax_Fw RX6 "<init>" 6 4 (.array .int) := fun _ _ _ h => by cases h; exact ⟨Or.inr ⟨rfl, rfl, rfl⟩, tyX6_ok _ (by decide)⟩
theorem fW_X6_30_a {nm : String} : ax_Fw RX6 nm 6 5 .int := fun _ _ _ h => by cases h; exact ⟨Or.inl rfl, tyX6_ok _ (by decide)⟩
theorem fW_X6_34_a {nm : String} : ax_Fw RX6 nm 6 6 .int := fun _ _ _ h => by cases h; exact ⟨Or.inl rfl, tyX6_ok _ (by decide)⟩
theorem fW_X6_9_i : ax_Fw RX6 "<init>" 6 0 (.array .int) := fun _ _ _ h => by cases h; exact ⟨Or.inr ⟨rfl, rfl, rfl⟩, tyX6_ok _ (by decide)⟩
theorem fW_X7_15_a {nm : String} : ax_Fw RX7 nm 7 1 .int := fun _ _ _ h => by cases h; exact ⟨Or.inl rfl, tyX7_ok _ (by decide)⟩
theorem fW_X7_19_a {nm : String} : ax_Fw RX7 nm 7 2 .int := fun _ _ _ h => by cases h; exact ⟨Or.inl rfl, tyX7_ok _ (by decide)⟩
theorem fW_X7_22_i : ax_Fw RX7 "<init>" 7 3 (.array .int) := fun _ _ _ h => by cases h; exact ⟨Or.inr ⟨rfl, rfl, rfl⟩, tyX7_ok _ (by decide)⟩
theorem fW_X7_27_i : ax_Fw RX7 "<init>" 7 4 (.array (.object "GluedHour$Odds")) := fun _ _ _ h => by cases h; exact ⟨Or.inr ⟨rfl, rfl, rfl⟩, tyX7_ok _ (by decide)⟩
theorem fW_X7_9_i : ax_Fw RX7 "<init>" 7 0 (.array .int) := fun _ _ _ h => by cases h; exact ⟨Or.inr ⟨rfl, rfl, rfl⟩, tyX7_ok _ (by decide)⟩
theorem fW_X8_15_i : ax_Fw RX8 "<init>" 8 1 (.array .int) := fun _ _ _ h => by cases h; exact ⟨Or.inr ⟨rfl, rfl, rfl⟩, tyX8_ok _ (by decide)⟩
theorem fW_X8_21_i : ax_Fw RX8 "<init>" 8 2 (.array (.object "GluedHour$Republic")) := fun _ _ _ h => by cases h; exact ⟨Or.inr ⟨rfl, rfl, rfl⟩, tyX8_ok _ (by decide)⟩
theorem fW_X8_27_i : ax_Fw RX8 "<init>" 8 3 (.array (.object "GluedHour$Lines")) := fun _ _ _ h => by cases h; exact ⟨Or.inr ⟨rfl, rfl, rfl⟩, tyX8_ok _ (by decide)⟩
theorem fW_X8_31_a {nm : String} : ax_Fw RX8 nm 8 4 .int := fun _ _ _ h => by cases h; exact ⟨Or.inl rfl, tyX8_ok _ (by decide)⟩
theorem fW_X8_35_a {nm : String} : ax_Fw RX8 nm 8 5 .int := fun _ _ _ h => by cases h; exact ⟨Or.inl rfl, tyX8_ok _ (by decide)⟩
theorem fW_X8_38_a {nm : String} : ax_Fw RX8 nm 8 6 .int := fun _ _ _ h => by cases h; exact ⟨Or.inl rfl, tyX8_ok _ (by decide)⟩
theorem fW_X8_9_i : ax_Fw RX8 "<init>" 8 0 (.array .byte) := fun _ _ _ h => by cases h; exact ⟨Or.inr ⟨rfl, rfl, rfl⟩, tyX8_ok _ (by decide)⟩
theorem fW_X9_10_i : ax_Fw RX9 "<init>" 9 0 (.object "GluedHour$Told") := fun _ _ _ h => by cases h; exact ⟨Or.inr ⟨rfl, rfl, rfl⟩, tyX9_ok _ (by decide)⟩
theorem fW_X9_16_i : ax_Fw RX9 "<init>" 9 1 (.array (.object "GluedHour$Told")) := fun _ _ _ h => by cases h; exact ⟨Or.inr ⟨rfl, rfl, rfl⟩, tyX9_ok _ (by decide)⟩
theorem fW_X9_29_i : ax_Fw RX9 "<init>" 9 2 (.object "GluedHour$Reader") := fun _ _ _ h => by cases h; exact ⟨Or.inr ⟨rfl, rfl, rfl⟩, tyX9_ok _ (by decide)⟩
theorem fW_X9_36_i : ax_Fw RX9 "<init>" 9 3 (.object "GluedHour$Course") := fun _ _ _ h => by cases h; exact ⟨Or.inr ⟨rfl, rfl, rfl⟩, tyX9_ok _ (by decide)⟩
theorem fW_X9_43_i : ax_Fw RX9 "<init>" 9 4 (.object "GluedHour$Odds") := fun _ _ _ h => by cases h; exact ⟨Or.inr ⟨rfl, rfl, rfl⟩, tyX9_ok _ (by decide)⟩
theorem fW_X9_47_i : ax_Fw RX9 "<init>" 9 5 (.object "GluedHour$Odds") := fun _ _ _ h => by cases h; exact ⟨Or.inr ⟨rfl, rfl, rfl⟩, tyX9_ok _ (by decide)⟩
theorem fW_X9_53_i : ax_Fw RX9 "<init>" 9 6 (.object "GluedHour$Planner") := fun _ _ _ h => by cases h; exact ⟨Or.inr ⟨rfl, rfl, rfl⟩, tyX9_ok _ (by decide)⟩
theorem fW_X9_60_i : ax_Fw RX9 "<init>" 9 7 (.object "GluedHour$Search") := fun _ _ _ h => by cases h; exact ⟨Or.inr ⟨rfl, rfl, rfl⟩, tyX9_ok _ (by decide)⟩
theorem fW_X9_67_i : ax_Fw RX9 "<init>" 9 8 (.object "GluedHour$Fraction") := fun _ _ _ h => by cases h; exact ⟨Or.inr ⟨rfl, rfl, rfl⟩, tyX9_ok _ (by decide)⟩
theorem fW_X9_71_a {nm : String} : ax_Fw RX9 nm 8 4 .int := fun _ _ _ h => by cases h; exact ⟨Or.inl rfl, tyX8_ok _ (by decide)⟩
theorem fW_X9_79_a {nm : String} : ax_Fw RX9 nm 8 5 .int := fun _ _ _ h => by cases h; exact ⟨Or.inl rfl, tyX8_ok _ (by decide)⟩
theorem fW_X9_82_a {nm : String} : ax_Fw RX9 nm 8 6 .int := fun _ _ _ h => by cases h; exact ⟨Or.inl rfl, tyX8_ok _ (by decide)⟩
end
end

section
section
/-! an instruction, read off its bytes -/
def byt (c : ByteArray) (p b : Nat) : Prop := ∃ h : p < c.size, c[p].toNat = b
theorem u1_at {c : ByteArray} {p b : Nat} (h : byt c p b) : (Jvm.ClassFile.Reader.u1 : Jvm.ClassFile.Decoder Nat) c p = .ok (b, p + 1) := by
  obtain ⟨h1, h2⟩ := h
  have e : (Jvm.ClassFile.Reader.u1 : Jvm.ClassFile.Decoder Nat) c p = (if h : p < c.size then .ok (c[p].toNat, p + 1) else .error (Jvm.ClassFile.DecodeError.truncated p)) := by
    unfold Jvm.ClassFile.Reader.u1
    show (if h : p < c.size then (_ : Jvm.ClassFile.Decoder Nat) else _) c p = _
    split <;> rfl
  rw [e, dif_pos h1, h2]
def bq1 (c : ByteArray) (p a : Nat) : Bool := match c.data.toList.drop p with
  | x :: _ => x.toNat == a
  | _ => false
def bq2 (c : ByteArray) (p a b : Nat) : Bool := match c.data.toList.drop p with
  | x :: y :: _ => x.toNat == a && y.toNat == b
  | _ => false
def bq3 (c : ByteArray) (p a b d : Nat) : Bool := match c.data.toList.drop p with
  | x :: y :: z :: _ => x.toNat == a && (y.toNat == b && z.toNat == d)
  | _ => false
theorem byt_i {c : ByteArray} {p i : Nat} {x : UInt8} (h : (c.data.toList.drop p)[i]? = some x) : byt c (p + i) x.toNat := by
  rw [List.getElem?_drop] at h
  obtain ⟨h1, h2⟩ := List.getElem?_eq_some_iff.mp h
  exact ⟨h1, by rw [← h2]; rfl⟩
theorem bq1_at {c : ByteArray} {p a : Nat} (h : bq1 c p a = true) : byt c p a := by
  unfold bq1 at h
  split at h
  · rename_i x t e
    have := byt_i (c := c) (p := p) (i := 0) (x := x) (by rw [e]; rfl)
    rw [← eq_of_beq h]; exact this
  · cases h
theorem bq2_at {c : ByteArray} {p a b : Nat} (h : bq2 c p a b = true) : byt c p a ∧ byt c (p + 1) b := by
  unfold bq2 at h
  split at h
  · rename_i x y t e
    rw [Bool.and_eq_true] at h
    rw [← eq_of_beq h.1, ← eq_of_beq h.2]
    exact ⟨byt_i (c := c) (p := p) (i := 0) (x := x) (by rw [e]; rfl), byt_i (c := c) (p := p) (i := 1) (x := y) (by rw [e]; rfl)⟩
  · cases h
theorem bq3_at {c : ByteArray} {p a b d : Nat} (h : bq3 c p a b d = true) : byt c p a ∧ byt c (p + 1) b ∧ byt c (p + 1 + 1) d := by
  unfold bq3 at h
  split at h
  · rename_i x y z t e
    rw [Bool.and_eq_true, Bool.and_eq_true] at h
    rw [← eq_of_beq h.1, ← eq_of_beq h.2.1, ← eq_of_beq h.2.2]
    exact ⟨byt_i (c := c) (p := p) (i := 0) (x := x) (by rw [e]; rfl), byt_i (c := c) (p := p) (i := 1) (x := y) (by rw [e]; rfl), byt_i (c := c) (p := p) (i := 2) (x := z) (by rw [e]; rfl)⟩
  · cases h
theorem bind_at {α β : Type} {x : Jvm.ClassFile.Decoder α} {f : α → Jvm.ClassFile.Decoder β} {c : ByteArray} {p q : Nat} {a : α} {r : Except Jvm.ClassFile.DecodeError (β × Nat)} (h : x c p = .ok (a, q)) (e : f a c q = r) : (x >>= f) c p = r := by
  show (x c p >>= fun t => f t.1 c t.2) = _
  rw [h]
  exact e
theorem u2_at {c : ByteArray} {p b d : Nat} (h : byt c p b ∧ byt c (p + 1) d) : (Jvm.ClassFile.Reader.u2 : Jvm.ClassFile.Decoder Nat) c p = .ok (b * 256 + d, p + 1 + 1) := bind_at (u1_at h.1) (bind_at (u1_at h.2) rfl)
theorem s1_at {c : ByteArray} {p b : Nat} {z : Int} (h : byt c p b) (e : Jvm.ClassFile.Reader.signed 8 b = z) : (Jvm.ClassFile.Reader.s1 : Jvm.ClassFile.Decoder Int) c p = .ok (z, p + 1) := by
  show (Jvm.ClassFile.Reader.u1 (ε := Jvm.ClassFile.DecodeError) c p >>= fun t => pure (Jvm.ClassFile.Reader.signed 8 t.1, t.2)) = _
  rw [u1_at h, ← e]
  rfl
theorem s2_at {c : ByteArray} {p b d : Nat} {z : Int} (h : byt c p b ∧ byt c (p + 1) d) (e : Jvm.ClassFile.Reader.signed 16 (b * 256 + d) = z) : (Jvm.ClassFile.Reader.s2 : Jvm.ClassFile.Decoder Int) c p = .ok (z, p + 1 + 1) := by
  show (Jvm.ClassFile.Reader.u2 (ε := Jvm.ClassFile.DecodeError) c p >>= fun t => pure (Jvm.ClassFile.Reader.signed 16 t.1, t.2)) = _
  rw [u2_at h, ← e]
  rfl
theorem dec_at {c : ByteArray} {p q n : Nat} {i : Jvm.ClassFile.Instr} (e : (Jvm.ClassFile.Decoder.instr p) c p = .ok (i, q)) (hn : q - p = n) : decode c p = .ok (i, n) := by
  unfold decode
  show ((Jvm.ClassFile.Decoder.instr p) c p >>= fun t => pure (t.1, t.2 - p)) = _
  rw [e, ← hn]
  rfl

theorem q_1 {c : ByteArray} {p n : Nat} (hn : p + 1 - p = n) (h : bq1 c p 1 = true) : decode c p = .ok (.aconst_null, n) := dec_at (bind_at (u1_at (bq1_at h)) rfl) hn
theorem q_2 {c : ByteArray} {p n : Nat} (hn : p + 1 - p = n) (h : bq1 c p 2 = true) : decode c p = .ok (.iconst (-1), n) := dec_at (bind_at (u1_at (bq1_at h)) rfl) hn
theorem q_3 {c : ByteArray} {p n : Nat} (hn : p + 1 - p = n) (h : bq1 c p 3 = true) : decode c p = .ok (.iconst 0, n) := dec_at (bind_at (u1_at (bq1_at h)) rfl) hn
theorem q_4 {c : ByteArray} {p n : Nat} (hn : p + 1 - p = n) (h : bq1 c p 4 = true) : decode c p = .ok (.iconst 1, n) := dec_at (bind_at (u1_at (bq1_at h)) rfl) hn
theorem q_5 {c : ByteArray} {p n : Nat} (hn : p + 1 - p = n) (h : bq1 c p 5 = true) : decode c p = .ok (.iconst 2, n) := dec_at (bind_at (u1_at (bq1_at h)) rfl) hn
theorem q_6 {c : ByteArray} {p n : Nat} (hn : p + 1 - p = n) (h : bq1 c p 6 = true) : decode c p = .ok (.iconst 3, n) := dec_at (bind_at (u1_at (bq1_at h)) rfl) hn
theorem q_7 {c : ByteArray} {p n : Nat} (hn : p + 1 - p = n) (h : bq1 c p 7 = true) : decode c p = .ok (.iconst 4, n) := dec_at (bind_at (u1_at (bq1_at h)) rfl) hn
theorem q_8 {c : ByteArray} {p n : Nat} (hn : p + 1 - p = n) (h : bq1 c p 8 = true) : decode c p = .ok (.iconst 5, n) := dec_at (bind_at (u1_at (bq1_at h)) rfl) hn
theorem q_9 {c : ByteArray} {p n : Nat} (hn : p + 1 - p = n) (h : bq1 c p 9 = true) : decode c p = .ok (.lconst 0, n) := dec_at (bind_at (u1_at (bq1_at h)) rfl) hn
theorem q_10 {c : ByteArray} {p n : Nat} (hn : p + 1 - p = n) (h : bq1 c p 10 = true) : decode c p = .ok (.lconst 1, n) := dec_at (bind_at (u1_at (bq1_at h)) rfl) hn
theorem q_16 {c : ByteArray} {p n b : Nat} {z : Int} (hn : p + 1 + 1 - p = n) (e : Jvm.ClassFile.Reader.signed 8 b = z) (h : bq2 c p 16 b = true) : decode c p = .ok (.bipush z, n) := dec_at (bind_at (u1_at (bq2_at h).1) (bind_at (s1_at (bq2_at h).2 e) rfl)) hn
theorem q_17 {c : ByteArray} {p n b d : Nat} {z : Int} (hn : p + 1 + 1 + 1 - p = n) (e : Jvm.ClassFile.Reader.signed 16 (b * 256 + d) = z) (h : bq3 c p 17 b d = true) : decode c p = .ok (.sipush z, n) := dec_at (bind_at (u1_at (bq3_at h).1) (bind_at (s2_at (bq3_at h).2 e) rfl)) hn
theorem q_18 {c : ByteArray} {p n b : Nat} (hn : p + 1 + 1 - p = n) (h : bq2 c p 18 b = true) : decode c p = .ok (.ldc b, n) := dec_at (bind_at (u1_at (bq2_at h).1) (bind_at (u1_at (bq2_at h).2) rfl)) hn
theorem q_19 {c : ByteArray} {p n b d : Nat} (hn : p + 1 + 1 + 1 - p = n) (h : bq3 c p 19 b d = true) : decode c p = .ok (.ldc_w (b * 256 + d), n) := dec_at (bind_at (u1_at (bq3_at h).1) (bind_at (u2_at (bq3_at h).2) rfl)) hn
theorem q_20 {c : ByteArray} {p n b d : Nat} (hn : p + 1 + 1 + 1 - p = n) (h : bq3 c p 20 b d = true) : decode c p = .ok (.ldc2_w (b * 256 + d), n) := dec_at (bind_at (u1_at (bq3_at h).1) (bind_at (u2_at (bq3_at h).2) rfl)) hn
theorem q_21 {c : ByteArray} {p n b : Nat} (hn : p + 1 + 1 - p = n) (h : bq2 c p 21 b = true) : decode c p = .ok (.iload b, n) := dec_at (bind_at (u1_at (bq2_at h).1) (bind_at (u1_at (bq2_at h).2) rfl)) hn
theorem q_22 {c : ByteArray} {p n b : Nat} (hn : p + 1 + 1 - p = n) (h : bq2 c p 22 b = true) : decode c p = .ok (.lload b, n) := dec_at (bind_at (u1_at (bq2_at h).1) (bind_at (u1_at (bq2_at h).2) rfl)) hn
theorem q_25 {c : ByteArray} {p n b : Nat} (hn : p + 1 + 1 - p = n) (h : bq2 c p 25 b = true) : decode c p = .ok (.aload b, n) := dec_at (bind_at (u1_at (bq2_at h).1) (bind_at (u1_at (bq2_at h).2) rfl)) hn
theorem q_26 {c : ByteArray} {p n : Nat} (hn : p + 1 - p = n) (h : bq1 c p 26 = true) : decode c p = .ok (.iload_n 0, n) := dec_at (bind_at (u1_at (bq1_at h)) rfl) hn
theorem q_27 {c : ByteArray} {p n : Nat} (hn : p + 1 - p = n) (h : bq1 c p 27 = true) : decode c p = .ok (.iload_n 1, n) := dec_at (bind_at (u1_at (bq1_at h)) rfl) hn
theorem q_28 {c : ByteArray} {p n : Nat} (hn : p + 1 - p = n) (h : bq1 c p 28 = true) : decode c p = .ok (.iload_n 2, n) := dec_at (bind_at (u1_at (bq1_at h)) rfl) hn
theorem q_29 {c : ByteArray} {p n : Nat} (hn : p + 1 - p = n) (h : bq1 c p 29 = true) : decode c p = .ok (.iload_n 3, n) := dec_at (bind_at (u1_at (bq1_at h)) rfl) hn
theorem q_30 {c : ByteArray} {p n : Nat} (hn : p + 1 - p = n) (h : bq1 c p 30 = true) : decode c p = .ok (.lload_n 0, n) := dec_at (bind_at (u1_at (bq1_at h)) rfl) hn
theorem q_31 {c : ByteArray} {p n : Nat} (hn : p + 1 - p = n) (h : bq1 c p 31 = true) : decode c p = .ok (.lload_n 1, n) := dec_at (bind_at (u1_at (bq1_at h)) rfl) hn
theorem q_32 {c : ByteArray} {p n : Nat} (hn : p + 1 - p = n) (h : bq1 c p 32 = true) : decode c p = .ok (.lload_n 2, n) := dec_at (bind_at (u1_at (bq1_at h)) rfl) hn
theorem q_33 {c : ByteArray} {p n : Nat} (hn : p + 1 - p = n) (h : bq1 c p 33 = true) : decode c p = .ok (.lload_n 3, n) := dec_at (bind_at (u1_at (bq1_at h)) rfl) hn
theorem q_42 {c : ByteArray} {p n : Nat} (hn : p + 1 - p = n) (h : bq1 c p 42 = true) : decode c p = .ok (.aload_n 0, n) := dec_at (bind_at (u1_at (bq1_at h)) rfl) hn
theorem q_43 {c : ByteArray} {p n : Nat} (hn : p + 1 - p = n) (h : bq1 c p 43 = true) : decode c p = .ok (.aload_n 1, n) := dec_at (bind_at (u1_at (bq1_at h)) rfl) hn
theorem q_44 {c : ByteArray} {p n : Nat} (hn : p + 1 - p = n) (h : bq1 c p 44 = true) : decode c p = .ok (.aload_n 2, n) := dec_at (bind_at (u1_at (bq1_at h)) rfl) hn
theorem q_45 {c : ByteArray} {p n : Nat} (hn : p + 1 - p = n) (h : bq1 c p 45 = true) : decode c p = .ok (.aload_n 3, n) := dec_at (bind_at (u1_at (bq1_at h)) rfl) hn
theorem q_46 {c : ByteArray} {p n : Nat} (hn : p + 1 - p = n) (h : bq1 c p 46 = true) : decode c p = .ok (.iaload, n) := dec_at (bind_at (u1_at (bq1_at h)) rfl) hn
theorem q_47 {c : ByteArray} {p n : Nat} (hn : p + 1 - p = n) (h : bq1 c p 47 = true) : decode c p = .ok (.laload, n) := dec_at (bind_at (u1_at (bq1_at h)) rfl) hn
theorem q_50 {c : ByteArray} {p n : Nat} (hn : p + 1 - p = n) (h : bq1 c p 50 = true) : decode c p = .ok (.aaload, n) := dec_at (bind_at (u1_at (bq1_at h)) rfl) hn
theorem q_51 {c : ByteArray} {p n : Nat} (hn : p + 1 - p = n) (h : bq1 c p 51 = true) : decode c p = .ok (.baload, n) := dec_at (bind_at (u1_at (bq1_at h)) rfl) hn
theorem q_54 {c : ByteArray} {p n b : Nat} (hn : p + 1 + 1 - p = n) (h : bq2 c p 54 b = true) : decode c p = .ok (.istore b, n) := dec_at (bind_at (u1_at (bq2_at h).1) (bind_at (u1_at (bq2_at h).2) rfl)) hn
theorem q_55 {c : ByteArray} {p n b : Nat} (hn : p + 1 + 1 - p = n) (h : bq2 c p 55 b = true) : decode c p = .ok (.lstore b, n) := dec_at (bind_at (u1_at (bq2_at h).1) (bind_at (u1_at (bq2_at h).2) rfl)) hn
theorem q_58 {c : ByteArray} {p n b : Nat} (hn : p + 1 + 1 - p = n) (h : bq2 c p 58 b = true) : decode c p = .ok (.astore b, n) := dec_at (bind_at (u1_at (bq2_at h).1) (bind_at (u1_at (bq2_at h).2) rfl)) hn
theorem q_60 {c : ByteArray} {p n : Nat} (hn : p + 1 - p = n) (h : bq1 c p 60 = true) : decode c p = .ok (.istore_n 1, n) := dec_at (bind_at (u1_at (bq1_at h)) rfl) hn
theorem q_61 {c : ByteArray} {p n : Nat} (hn : p + 1 - p = n) (h : bq1 c p 61 = true) : decode c p = .ok (.istore_n 2, n) := dec_at (bind_at (u1_at (bq1_at h)) rfl) hn
theorem q_62 {c : ByteArray} {p n : Nat} (hn : p + 1 - p = n) (h : bq1 c p 62 = true) : decode c p = .ok (.istore_n 3, n) := dec_at (bind_at (u1_at (bq1_at h)) rfl) hn
theorem q_64 {c : ByteArray} {p n : Nat} (hn : p + 1 - p = n) (h : bq1 c p 64 = true) : decode c p = .ok (.lstore_n 1, n) := dec_at (bind_at (u1_at (bq1_at h)) rfl) hn
theorem q_65 {c : ByteArray} {p n : Nat} (hn : p + 1 - p = n) (h : bq1 c p 65 = true) : decode c p = .ok (.lstore_n 2, n) := dec_at (bind_at (u1_at (bq1_at h)) rfl) hn
theorem q_66 {c : ByteArray} {p n : Nat} (hn : p + 1 - p = n) (h : bq1 c p 66 = true) : decode c p = .ok (.lstore_n 3, n) := dec_at (bind_at (u1_at (bq1_at h)) rfl) hn
theorem q_76 {c : ByteArray} {p n : Nat} (hn : p + 1 - p = n) (h : bq1 c p 76 = true) : decode c p = .ok (.astore_n 1, n) := dec_at (bind_at (u1_at (bq1_at h)) rfl) hn
theorem q_77 {c : ByteArray} {p n : Nat} (hn : p + 1 - p = n) (h : bq1 c p 77 = true) : decode c p = .ok (.astore_n 2, n) := dec_at (bind_at (u1_at (bq1_at h)) rfl) hn
theorem q_78 {c : ByteArray} {p n : Nat} (hn : p + 1 - p = n) (h : bq1 c p 78 = true) : decode c p = .ok (.astore_n 3, n) := dec_at (bind_at (u1_at (bq1_at h)) rfl) hn
theorem q_79 {c : ByteArray} {p n : Nat} (hn : p + 1 - p = n) (h : bq1 c p 79 = true) : decode c p = .ok (.iastore, n) := dec_at (bind_at (u1_at (bq1_at h)) rfl) hn
theorem q_80 {c : ByteArray} {p n : Nat} (hn : p + 1 - p = n) (h : bq1 c p 80 = true) : decode c p = .ok (.lastore, n) := dec_at (bind_at (u1_at (bq1_at h)) rfl) hn
theorem q_83 {c : ByteArray} {p n : Nat} (hn : p + 1 - p = n) (h : bq1 c p 83 = true) : decode c p = .ok (.aastore, n) := dec_at (bind_at (u1_at (bq1_at h)) rfl) hn
theorem q_84 {c : ByteArray} {p n : Nat} (hn : p + 1 - p = n) (h : bq1 c p 84 = true) : decode c p = .ok (.bastore, n) := dec_at (bind_at (u1_at (bq1_at h)) rfl) hn
theorem q_87 {c : ByteArray} {p n : Nat} (hn : p + 1 - p = n) (h : bq1 c p 87 = true) : decode c p = .ok (.pop, n) := dec_at (bind_at (u1_at (bq1_at h)) rfl) hn
theorem q_88 {c : ByteArray} {p n : Nat} (hn : p + 1 - p = n) (h : bq1 c p 88 = true) : decode c p = .ok (.pop2, n) := dec_at (bind_at (u1_at (bq1_at h)) rfl) hn
theorem q_89 {c : ByteArray} {p n : Nat} (hn : p + 1 - p = n) (h : bq1 c p 89 = true) : decode c p = .ok (.dup, n) := dec_at (bind_at (u1_at (bq1_at h)) rfl) hn
theorem q_92 {c : ByteArray} {p n : Nat} (hn : p + 1 - p = n) (h : bq1 c p 92 = true) : decode c p = .ok (.dup2, n) := dec_at (bind_at (u1_at (bq1_at h)) rfl) hn
theorem q_96 {c : ByteArray} {p n : Nat} (hn : p + 1 - p = n) (h : bq1 c p 96 = true) : decode c p = .ok (.iadd, n) := dec_at (bind_at (u1_at (bq1_at h)) rfl) hn
theorem q_97 {c : ByteArray} {p n : Nat} (hn : p + 1 - p = n) (h : bq1 c p 97 = true) : decode c p = .ok (.ladd, n) := dec_at (bind_at (u1_at (bq1_at h)) rfl) hn
theorem q_100 {c : ByteArray} {p n : Nat} (hn : p + 1 - p = n) (h : bq1 c p 100 = true) : decode c p = .ok (.isub, n) := dec_at (bind_at (u1_at (bq1_at h)) rfl) hn
theorem q_101 {c : ByteArray} {p n : Nat} (hn : p + 1 - p = n) (h : bq1 c p 101 = true) : decode c p = .ok (.lsub, n) := dec_at (bind_at (u1_at (bq1_at h)) rfl) hn
theorem q_104 {c : ByteArray} {p n : Nat} (hn : p + 1 - p = n) (h : bq1 c p 104 = true) : decode c p = .ok (.imul, n) := dec_at (bind_at (u1_at (bq1_at h)) rfl) hn
theorem q_105 {c : ByteArray} {p n : Nat} (hn : p + 1 - p = n) (h : bq1 c p 105 = true) : decode c p = .ok (.lmul, n) := dec_at (bind_at (u1_at (bq1_at h)) rfl) hn
theorem q_108 {c : ByteArray} {p n : Nat} (hn : p + 1 - p = n) (h : bq1 c p 108 = true) : decode c p = .ok (.idiv, n) := dec_at (bind_at (u1_at (bq1_at h)) rfl) hn
theorem q_109 {c : ByteArray} {p n : Nat} (hn : p + 1 - p = n) (h : bq1 c p 109 = true) : decode c p = .ok (.ldiv, n) := dec_at (bind_at (u1_at (bq1_at h)) rfl) hn
theorem q_112 {c : ByteArray} {p n : Nat} (hn : p + 1 - p = n) (h : bq1 c p 112 = true) : decode c p = .ok (.irem, n) := dec_at (bind_at (u1_at (bq1_at h)) rfl) hn
theorem q_113 {c : ByteArray} {p n : Nat} (hn : p + 1 - p = n) (h : bq1 c p 113 = true) : decode c p = .ok (.lrem, n) := dec_at (bind_at (u1_at (bq1_at h)) rfl) hn
theorem q_116 {c : ByteArray} {p n : Nat} (hn : p + 1 - p = n) (h : bq1 c p 116 = true) : decode c p = .ok (.ineg, n) := dec_at (bind_at (u1_at (bq1_at h)) rfl) hn
theorem q_117 {c : ByteArray} {p n : Nat} (hn : p + 1 - p = n) (h : bq1 c p 117 = true) : decode c p = .ok (.lneg, n) := dec_at (bind_at (u1_at (bq1_at h)) rfl) hn
theorem q_120 {c : ByteArray} {p n : Nat} (hn : p + 1 - p = n) (h : bq1 c p 120 = true) : decode c p = .ok (.ishl, n) := dec_at (bind_at (u1_at (bq1_at h)) rfl) hn
theorem q_121 {c : ByteArray} {p n : Nat} (hn : p + 1 - p = n) (h : bq1 c p 121 = true) : decode c p = .ok (.lshl, n) := dec_at (bind_at (u1_at (bq1_at h)) rfl) hn
theorem q_122 {c : ByteArray} {p n : Nat} (hn : p + 1 - p = n) (h : bq1 c p 122 = true) : decode c p = .ok (.ishr, n) := dec_at (bind_at (u1_at (bq1_at h)) rfl) hn
theorem q_123 {c : ByteArray} {p n : Nat} (hn : p + 1 - p = n) (h : bq1 c p 123 = true) : decode c p = .ok (.lshr, n) := dec_at (bind_at (u1_at (bq1_at h)) rfl) hn
theorem q_124 {c : ByteArray} {p n : Nat} (hn : p + 1 - p = n) (h : bq1 c p 124 = true) : decode c p = .ok (.iushr, n) := dec_at (bind_at (u1_at (bq1_at h)) rfl) hn
theorem q_126 {c : ByteArray} {p n : Nat} (hn : p + 1 - p = n) (h : bq1 c p 126 = true) : decode c p = .ok (.iand, n) := dec_at (bind_at (u1_at (bq1_at h)) rfl) hn
theorem q_128 {c : ByteArray} {p n : Nat} (hn : p + 1 - p = n) (h : bq1 c p 128 = true) : decode c p = .ok (.ior, n) := dec_at (bind_at (u1_at (bq1_at h)) rfl) hn
theorem q_129 {c : ByteArray} {p n : Nat} (hn : p + 1 - p = n) (h : bq1 c p 129 = true) : decode c p = .ok (.lor, n) := dec_at (bind_at (u1_at (bq1_at h)) rfl) hn
theorem q_130 {c : ByteArray} {p n : Nat} (hn : p + 1 - p = n) (h : bq1 c p 130 = true) : decode c p = .ok (.ixor, n) := dec_at (bind_at (u1_at (bq1_at h)) rfl) hn
theorem q_132 {c : ByteArray} {p n b d : Nat} {z : Int} (hn : p + 1 + 1 + 1 - p = n) (e : Jvm.ClassFile.Reader.signed 8 d = z) (h : bq3 c p 132 b d = true) : decode c p = .ok (.iinc b z, n) := dec_at (bind_at (u1_at (bq3_at h).1) (bind_at (u1_at (bq3_at h).2.1) (bind_at (s1_at (bq3_at h).2.2 e) rfl))) hn
theorem q_133 {c : ByteArray} {p n : Nat} (hn : p + 1 - p = n) (h : bq1 c p 133 = true) : decode c p = .ok (.i2l, n) := dec_at (bind_at (u1_at (bq1_at h)) rfl) hn
theorem q_136 {c : ByteArray} {p n : Nat} (hn : p + 1 - p = n) (h : bq1 c p 136 = true) : decode c p = .ok (.l2i, n) := dec_at (bind_at (u1_at (bq1_at h)) rfl) hn
theorem q_145 {c : ByteArray} {p n : Nat} (hn : p + 1 - p = n) (h : bq1 c p 145 = true) : decode c p = .ok (.i2b, n) := dec_at (bind_at (u1_at (bq1_at h)) rfl) hn
theorem q_146 {c : ByteArray} {p n : Nat} (hn : p + 1 - p = n) (h : bq1 c p 146 = true) : decode c p = .ok (.i2c, n) := dec_at (bind_at (u1_at (bq1_at h)) rfl) hn
theorem q_148 {c : ByteArray} {p n : Nat} (hn : p + 1 - p = n) (h : bq1 c p 148 = true) : decode c p = .ok (.lcmp, n) := dec_at (bind_at (u1_at (bq1_at h)) rfl) hn
theorem q_153 {c : ByteArray} {p n b d : Nat} {z : Int} (hn : p + 1 + 1 + 1 - p = n) (e : Jvm.ClassFile.Reader.signed 16 (b * 256 + d) = z) (h : bq3 c p 153 b d = true) : decode c p = .ok (.ifCond .eq z, n) := dec_at (bind_at (u1_at (bq3_at h).1) (bind_at (s2_at (bq3_at h).2 e) rfl)) hn
theorem q_154 {c : ByteArray} {p n b d : Nat} {z : Int} (hn : p + 1 + 1 + 1 - p = n) (e : Jvm.ClassFile.Reader.signed 16 (b * 256 + d) = z) (h : bq3 c p 154 b d = true) : decode c p = .ok (.ifCond .ne z, n) := dec_at (bind_at (u1_at (bq3_at h).1) (bind_at (s2_at (bq3_at h).2 e) rfl)) hn
theorem q_155 {c : ByteArray} {p n b d : Nat} {z : Int} (hn : p + 1 + 1 + 1 - p = n) (e : Jvm.ClassFile.Reader.signed 16 (b * 256 + d) = z) (h : bq3 c p 155 b d = true) : decode c p = .ok (.ifCond .lt z, n) := dec_at (bind_at (u1_at (bq3_at h).1) (bind_at (s2_at (bq3_at h).2 e) rfl)) hn
theorem q_156 {c : ByteArray} {p n b d : Nat} {z : Int} (hn : p + 1 + 1 + 1 - p = n) (e : Jvm.ClassFile.Reader.signed 16 (b * 256 + d) = z) (h : bq3 c p 156 b d = true) : decode c p = .ok (.ifCond .ge z, n) := dec_at (bind_at (u1_at (bq3_at h).1) (bind_at (s2_at (bq3_at h).2 e) rfl)) hn
theorem q_158 {c : ByteArray} {p n b d : Nat} {z : Int} (hn : p + 1 + 1 + 1 - p = n) (e : Jvm.ClassFile.Reader.signed 16 (b * 256 + d) = z) (h : bq3 c p 158 b d = true) : decode c p = .ok (.ifCond .le z, n) := dec_at (bind_at (u1_at (bq3_at h).1) (bind_at (s2_at (bq3_at h).2 e) rfl)) hn
theorem q_159 {c : ByteArray} {p n b d : Nat} {z : Int} (hn : p + 1 + 1 + 1 - p = n) (e : Jvm.ClassFile.Reader.signed 16 (b * 256 + d) = z) (h : bq3 c p 159 b d = true) : decode c p = .ok (.if_icmp .eq z, n) := dec_at (bind_at (u1_at (bq3_at h).1) (bind_at (s2_at (bq3_at h).2 e) rfl)) hn
theorem q_160 {c : ByteArray} {p n b d : Nat} {z : Int} (hn : p + 1 + 1 + 1 - p = n) (e : Jvm.ClassFile.Reader.signed 16 (b * 256 + d) = z) (h : bq3 c p 160 b d = true) : decode c p = .ok (.if_icmp .ne z, n) := dec_at (bind_at (u1_at (bq3_at h).1) (bind_at (s2_at (bq3_at h).2 e) rfl)) hn
theorem q_161 {c : ByteArray} {p n b d : Nat} {z : Int} (hn : p + 1 + 1 + 1 - p = n) (e : Jvm.ClassFile.Reader.signed 16 (b * 256 + d) = z) (h : bq3 c p 161 b d = true) : decode c p = .ok (.if_icmp .lt z, n) := dec_at (bind_at (u1_at (bq3_at h).1) (bind_at (s2_at (bq3_at h).2 e) rfl)) hn
theorem q_162 {c : ByteArray} {p n b d : Nat} {z : Int} (hn : p + 1 + 1 + 1 - p = n) (e : Jvm.ClassFile.Reader.signed 16 (b * 256 + d) = z) (h : bq3 c p 162 b d = true) : decode c p = .ok (.if_icmp .ge z, n) := dec_at (bind_at (u1_at (bq3_at h).1) (bind_at (s2_at (bq3_at h).2 e) rfl)) hn
theorem q_163 {c : ByteArray} {p n b d : Nat} {z : Int} (hn : p + 1 + 1 + 1 - p = n) (e : Jvm.ClassFile.Reader.signed 16 (b * 256 + d) = z) (h : bq3 c p 163 b d = true) : decode c p = .ok (.if_icmp .gt z, n) := dec_at (bind_at (u1_at (bq3_at h).1) (bind_at (s2_at (bq3_at h).2 e) rfl)) hn
theorem q_164 {c : ByteArray} {p n b d : Nat} {z : Int} (hn : p + 1 + 1 + 1 - p = n) (e : Jvm.ClassFile.Reader.signed 16 (b * 256 + d) = z) (h : bq3 c p 164 b d = true) : decode c p = .ok (.if_icmp .le z, n) := dec_at (bind_at (u1_at (bq3_at h).1) (bind_at (s2_at (bq3_at h).2 e) rfl)) hn
theorem q_167 {c : ByteArray} {p n b d : Nat} {z : Int} (hn : p + 1 + 1 + 1 - p = n) (e : Jvm.ClassFile.Reader.signed 16 (b * 256 + d) = z) (h : bq3 c p 167 b d = true) : decode c p = .ok (.goto z, n) := dec_at (bind_at (u1_at (bq3_at h).1) (bind_at (s2_at (bq3_at h).2 e) rfl)) hn
theorem q_172 {c : ByteArray} {p n : Nat} (hn : p + 1 - p = n) (h : bq1 c p 172 = true) : decode c p = .ok (.ireturn, n) := dec_at (bind_at (u1_at (bq1_at h)) rfl) hn
theorem q_173 {c : ByteArray} {p n : Nat} (hn : p + 1 - p = n) (h : bq1 c p 173 = true) : decode c p = .ok (.lreturn, n) := dec_at (bind_at (u1_at (bq1_at h)) rfl) hn
theorem q_176 {c : ByteArray} {p n : Nat} (hn : p + 1 - p = n) (h : bq1 c p 176 = true) : decode c p = .ok (.areturn, n) := dec_at (bind_at (u1_at (bq1_at h)) rfl) hn
theorem q_177 {c : ByteArray} {p n : Nat} (hn : p + 1 - p = n) (h : bq1 c p 177 = true) : decode c p = .ok (.return_, n) := dec_at (bind_at (u1_at (bq1_at h)) rfl) hn
theorem q_178 {c : ByteArray} {p n b d : Nat} (hn : p + 1 + 1 + 1 - p = n) (h : bq3 c p 178 b d = true) : decode c p = .ok (.getstatic (b * 256 + d), n) := dec_at (bind_at (u1_at (bq3_at h).1) (bind_at (u2_at (bq3_at h).2) rfl)) hn
theorem q_180 {c : ByteArray} {p n b d : Nat} (hn : p + 1 + 1 + 1 - p = n) (h : bq3 c p 180 b d = true) : decode c p = .ok (.getfield (b * 256 + d), n) := dec_at (bind_at (u1_at (bq3_at h).1) (bind_at (u2_at (bq3_at h).2) rfl)) hn
theorem q_181 {c : ByteArray} {p n b d : Nat} (hn : p + 1 + 1 + 1 - p = n) (h : bq3 c p 181 b d = true) : decode c p = .ok (.putfield (b * 256 + d), n) := dec_at (bind_at (u1_at (bq3_at h).1) (bind_at (u2_at (bq3_at h).2) rfl)) hn
theorem q_182 {c : ByteArray} {p n b d : Nat} (hn : p + 1 + 1 + 1 - p = n) (h : bq3 c p 182 b d = true) : decode c p = .ok (.invokevirtual (b * 256 + d), n) := dec_at (bind_at (u1_at (bq3_at h).1) (bind_at (u2_at (bq3_at h).2) rfl)) hn
theorem q_183 {c : ByteArray} {p n b d : Nat} (hn : p + 1 + 1 + 1 - p = n) (h : bq3 c p 183 b d = true) : decode c p = .ok (.invokespecial (b * 256 + d), n) := dec_at (bind_at (u1_at (bq3_at h).1) (bind_at (u2_at (bq3_at h).2) rfl)) hn
theorem q_184 {c : ByteArray} {p n b d : Nat} (hn : p + 1 + 1 + 1 - p = n) (h : bq3 c p 184 b d = true) : decode c p = .ok (.invokestatic (b * 256 + d), n) := dec_at (bind_at (u1_at (bq3_at h).1) (bind_at (u2_at (bq3_at h).2) rfl)) hn
theorem q_187 {c : ByteArray} {p n b d : Nat} (hn : p + 1 + 1 + 1 - p = n) (h : bq3 c p 187 b d = true) : decode c p = .ok (.new (b * 256 + d), n) := dec_at (bind_at (u1_at (bq3_at h).1) (bind_at (u2_at (bq3_at h).2) rfl)) hn
theorem q_188_4 {c : ByteArray} {p n : Nat} (hn : p + 1 + 1 - p = n) (h : bq2 c p 188 4 = true) : decode c p = .ok (.newarray .boolean, n) := dec_at (bind_at (u1_at (bq2_at h).1) (bind_at (u1_at (bq2_at h).2) rfl)) hn
theorem q_188_8 {c : ByteArray} {p n : Nat} (hn : p + 1 + 1 - p = n) (h : bq2 c p 188 8 = true) : decode c p = .ok (.newarray .byte, n) := dec_at (bind_at (u1_at (bq2_at h).1) (bind_at (u1_at (bq2_at h).2) rfl)) hn
theorem q_188_10 {c : ByteArray} {p n : Nat} (hn : p + 1 + 1 - p = n) (h : bq2 c p 188 10 = true) : decode c p = .ok (.newarray .int, n) := dec_at (bind_at (u1_at (bq2_at h).1) (bind_at (u1_at (bq2_at h).2) rfl)) hn
theorem q_188_11 {c : ByteArray} {p n : Nat} (hn : p + 1 + 1 - p = n) (h : bq2 c p 188 11 = true) : decode c p = .ok (.newarray .long, n) := dec_at (bind_at (u1_at (bq2_at h).1) (bind_at (u1_at (bq2_at h).2) rfl)) hn
theorem q_189 {c : ByteArray} {p n b d : Nat} (hn : p + 1 + 1 + 1 - p = n) (h : bq3 c p 189 b d = true) : decode c p = .ok (.anewarray (b * 256 + d), n) := dec_at (bind_at (u1_at (bq3_at h).1) (bind_at (u2_at (bq3_at h).2) rfl)) hn
theorem q_190 {c : ByteArray} {p n : Nat} (hn : p + 1 - p = n) (h : bq1 c p 190 = true) : decode c p = .ok (.arraylength, n) := dec_at (bind_at (u1_at (bq1_at h)) rfl) hn
theorem q_198 {c : ByteArray} {p n b d : Nat} {z : Int} (hn : p + 1 + 1 + 1 - p = n) (e : Jvm.ClassFile.Reader.signed 16 (b * 256 + d) = z) (h : bq3 c p 198 b d = true) : decode c p = .ok (.ifnull z, n) := dec_at (bind_at (u1_at (bq3_at h).1) (bind_at (s2_at (bq3_at h).2 e) rfl)) hn
theorem q_199 {c : ByteArray} {p n b d : Nat} {z : Int} (hn : p + 1 + 1 + 1 - p = n) (e : Jvm.ClassFile.Reader.signed 16 (b * 256 + d) = z) (h : bq3 c p 199 b d = true) : decode c p = .ok (.ifnonnull z, n) := dec_at (bind_at (u1_at (bq3_at h).1) (bind_at (s2_at (bq3_at h).2 e) rfl)) hn
end
end

