section
/-! locals by place -/
def ax_as : Nat → List (Option Value) → List (Nat × Value)
  | _, [] => []
  | i, none :: r => ax_as (i + 1) r
  | i, some v :: r => (i, v) :: ax_as (i + 1) r
def ax_g : List (Option Value) → Nat → Option Value
  | [], _ => none
  | x :: _, 0 => x
  | _ :: r, n + 1 => ax_g r n
def ax_k2 (x : Option Value) : Option Value := match x with
  | some (.long _) => none
  | some (.double _) => none
  | x => x
def ax_st : List (Option Value) → Nat → Value → List (Option Value)
  | [], _, _ => []
  | _ :: r, 0, v => some v :: r
  | x :: r, 1, v => ax_k2 x :: ax_st r 0 v
  | x :: r, n + 2, v => x :: ax_st r (n + 1) v
def ax_st2 : List (Option Value) → Nat → Value → List (Option Value)
  | [], _, _ => []
  | [_], 0, _ => [none]
  | _ :: _ :: r, 0, v => some v :: none :: r
  | x :: r, 1, v => ax_k2 x :: ax_st2 r 0 v
  | x :: r, n + 2, v => x :: ax_st2 r (n + 1) v
theorem ax_as_mem : ∀ (L : List (Option Value)) (i j : Nat) (v : Value), (j, v) ∈ ax_as i L ↔ i ≤ j ∧ L[j - i]? = some (some v) := by
  intro L
  induction L with
  | nil => intro i j v; simp [ax_as]
  | cons x r ih =>
    intro i j v
    have key : ∀ y : Option Value, (i + 1 ≤ j ∧ r[j - (i + 1)]? = some (some v)) ↔ (i + 1 ≤ j ∧ (y :: r)[j - i]? = some (some v)) := by
      intro y
      constructor
      · rintro ⟨h1, h2⟩
        refine ⟨h1, ?_⟩
        have : j - i = (j - (i + 1)) + 1 := by omega
        rw [this, List.getElem?_cons_succ]
        exact h2
      · rintro ⟨h1, h2⟩
        refine ⟨h1, ?_⟩
        have : j - i = (j - (i + 1)) + 1 := by omega
        rw [this, List.getElem?_cons_succ] at h2
        exact h2
    cases x with
    | none =>
      rw [ax_as, ih, key none]
      constructor
      · rintro ⟨h1, h2⟩
        exact ⟨by omega, h2⟩
      · rintro ⟨h1, h2⟩
        rcases Nat.eq_or_lt_of_le h1 with e | e
        · subst e
          simp at h2
        · exact ⟨e, h2⟩
    | some w =>
      rw [ax_as, List.mem_cons, ih, key (some w)]
      constructor
      · rintro (h | ⟨h1, h2⟩)
        · cases h
          simp
        · exact ⟨by omega, h2⟩
      · rintro ⟨h1, h2⟩
        rcases Nat.eq_or_lt_of_le h1 with e | e
        · subst e
          simp at h2
          exact Or.inl (by rw [h2])
        · exact Or.inr ⟨e, h2⟩
theorem ax_g_get : ∀ (L : List (Option Value)) (i : Nat) (v : Value), ax_g L i = some v → L[i]? = some (some v) := by
  intro L
  induction L with
  | nil => intro i v h; simp [ax_g] at h
  | cons x r ih =>
    intro i v h
    cases i with
    | zero => simp [ax_g] at h; simp [h]
    | succ n => simp [ax_g] at h; simpa using ih n v h
theorem ax_k2_cat {x : Option Value} {w : Value} (h : ax_k2 x = some w) : x = some w ∧ ¬ w.category = 2 := by
  unfold ax_k2 at h
  split at h
  · cases h
  · cases h
  · rename_i h1 h2
    subst h
    refine ⟨rfl, ?_⟩
    cases w <;> simp [Value.category] <;> first | exact absurd rfl (h1 _) | exact absurd rfl (h2 _)
theorem ax_st_get : ∀ (L : List (Option Value)) (i : Nat) (v : Value) (j : Nat) (w : Value), (ax_st L i v)[j]? = some (some w) → (j = i ∧ w = v) ∨ (j ≠ i ∧ ¬ (j + 1 = i ∧ w.category = 2) ∧ L[j]? = some (some w)) := by
  intro L
  induction L with
  | nil => intro i v j w h; simp [ax_st] at h
  | cons x r ih =>
    intro i v j w h
    match i with
    | 0 =>
      cases j with
      | zero => simp [ax_st] at h; exact Or.inl ⟨rfl, h.symm⟩
      | succ j => simp [ax_st] at h; exact Or.inr ⟨by omega, by omega, by simpa using h⟩
    | 1 =>
      cases j with
      | zero =>
        simp [ax_st] at h
        obtain ⟨h1, h2⟩ := ax_k2_cat h
        exact Or.inr ⟨by omega, fun q => h2 q.2, by simp [h1]⟩
      | succ j =>
        simp [ax_st] at h
        rcases ih 0 v j w h with ⟨h1, h2⟩ | ⟨h1, h2, h3⟩
        · exact Or.inl ⟨by omega, h2⟩
        · exact Or.inr ⟨by omega, by omega, by simpa using h3⟩
    | n + 2 =>
      cases j with
      | zero => simp [ax_st] at h; exact Or.inr ⟨by omega, by omega, by simp [h]⟩
      | succ j =>
        simp [ax_st] at h
        rcases ih (n + 1) v j w h with ⟨h1, h2⟩ | ⟨h1, h2, h3⟩
        · exact Or.inl ⟨by omega, h2⟩
        · exact Or.inr ⟨by omega, fun q => h2 ⟨by omega, q.2⟩, by simpa using h3⟩
theorem ax_st2_get : ∀ (L : List (Option Value)) (i : Nat) (v : Value) (j : Nat) (w : Value), (ax_st2 L i v)[j]? = some (some w) → (j = i ∧ w = v) ∨ (j ≠ i ∧ j ≠ i + 1 ∧ ¬ (j + 1 = i ∧ w.category = 2) ∧ L[j]? = some (some w)) := by
  intro L
  induction L with
  | nil => intro i v j w h; simp [ax_st2] at h
  | cons x r ih =>
    intro i v j w h
    match i with
    | 0 =>
      cases r with
      | nil =>
        cases j with
        | zero => simp [ax_st2] at h
        | succ j => simp [ax_st2] at h
      | cons y r =>
        match j with
        | 0 => simp [ax_st2] at h; exact Or.inl ⟨rfl, h.symm⟩
        | 1 => simp [ax_st2] at h
        | j + 2 => simp [ax_st2] at h; exact Or.inr ⟨by omega, by omega, by omega, by simpa using h⟩
    | 1 =>
      cases j with
      | zero =>
        simp [ax_st2] at h
        obtain ⟨h1, h2⟩ := ax_k2_cat h
        exact Or.inr ⟨by omega, by omega, fun q => h2 q.2, by simp [h1]⟩
      | succ j =>
        simp [ax_st2] at h
        rcases ih 0 v j w h with ⟨h1, h2⟩ | ⟨h1, h2, h3, h4⟩
        · exact Or.inl ⟨by omega, h2⟩
        · exact Or.inr ⟨by omega, by omega, by omega, by simpa using h4⟩
    | n + 2 =>
      cases j with
      | zero => simp [ax_st2] at h; exact Or.inr ⟨by omega, by omega, by omega, by simp [h]⟩
      | succ j =>
        simp [ax_st2] at h
        rcases ih (n + 1) v j w h with ⟨h1, h2⟩ | ⟨h1, h2, h3, h4⟩
        · exact Or.inl ⟨by omega, h2⟩
        · exact Or.inr ⟨by omega, by omega, fun q => h3 ⟨by omega, q.2⟩, by simpa using h4⟩
/-- the machine's locals hold L's -/
def ax_lr (g : ax_G) (ls : Array Slot) (nL : Nat) (L : List (Option Value)) : Prop := lv_has ls nL (ax_as 0 (L.map (Option.map (ax_v g))))
theorem ax_v_cat (g : ax_G) (v : Value) : (ax_v g v).category = v.category := by cases v <;> rfl
theorem ax_lr_get {g : ax_G} {ls : Array Slot} {nL : Nat} {L : List (Option Value)} {i : Nat} {v : Value} (h : ax_lr g ls nL L) (hv : ax_g L i = some v) : ls[i]? = some (.val (ax_v g v)) := by
  refine h.2.2 (i, ax_v g v) ((ax_as_mem _ _ _ _).mpr ⟨Nat.zero_le _, ?_⟩)
  rw [Nat.sub_zero, List.getElem?_map, ax_g_get _ _ _ hv]
  rfl
theorem ax_map_get {g : ax_G} {L : List (Option Value)} {j : Nat} {w : Value} (h : (L.map (Option.map (ax_v g)))[j]? = some (some w)) : ∃ u, L[j]? = some (some u) ∧ w = ax_v g u := by
  rw [List.getElem?_map] at h
  cases hL : L[j]? with
  | none => rw [hL] at h; cases h
  | some x =>
    rw [hL] at h
    cases x with
    | none => cases h
    | some u => cases h; exact ⟨u, rfl, rfl⟩
theorem ax_lr_st {g : ax_G} {ls' : Array Slot} {nL : Nat} {L : List (Option Value)} {i : Nat} {v : Value} (h : lv_has ls' nL ((i, ax_v g v) :: (ax_as 0 (L.map (Option.map (ax_v g)))).filter (fun q => !(q.1 == i) && !(q.1 + 1 == i && q.2.category == 2)))) : ax_lr g ls' nL (ax_st L i v) := by
  refine ⟨h.1, h.2.1, fun q hq => h.2.2 q ?_⟩
  obtain ⟨j, w⟩ := q
  obtain ⟨-, h1⟩ := (ax_as_mem _ _ _ _).mp hq
  rw [Nat.sub_zero] at h1
  obtain ⟨u, h2, rfl⟩ := ax_map_get h1
  rcases ax_st_get _ _ _ _ _ h2 with ⟨rfl, rfl⟩ | ⟨h3, h4, h5⟩
  · exact List.mem_cons_self
  · refine List.mem_cons_of_mem _ (List.mem_filter.mpr ⟨(ax_as_mem _ _ _ _).mpr ⟨Nat.zero_le _, ?_⟩, ?_⟩)
    · rw [Nat.sub_zero, List.getElem?_map, h5]; rfl
    · have e1 : (j == i) = false := by simpa using h3
      show (!(j == i) && !(j + 1 == i && (ax_v g u).category == 2)) = true
      rw [e1, ax_v_cat]
      by_cases e2 : j + 1 = i
      · have : ¬ u.category = 2 := fun q => h4 ⟨e2, q⟩
        simp [this]
      · simp [e2]
theorem ax_lr_st2 {g : ax_G} {ls' : Array Slot} {nL : Nat} {L : List (Option Value)} {i : Nat} {v : Value} (h : lv_has ls' nL ((i, ax_v g v) :: (ax_as 0 (L.map (Option.map (ax_v g)))).filter (fun q => !(q.1 == i) && (!(q.1 == i + 1) && !(q.1 + 1 == i && q.2.category == 2))))) : ax_lr g ls' nL (ax_st2 L i v) := by
  refine ⟨h.1, h.2.1, fun q hq => h.2.2 q ?_⟩
  obtain ⟨j, w⟩ := q
  obtain ⟨-, h1⟩ := (ax_as_mem _ _ _ _).mp hq
  rw [Nat.sub_zero] at h1
  obtain ⟨u, h2, rfl⟩ := ax_map_get h1
  rcases ax_st2_get _ _ _ _ _ h2 with ⟨rfl, rfl⟩ | ⟨h3, h3', h4, h5⟩
  · exact List.mem_cons_self
  · refine List.mem_cons_of_mem _ (List.mem_filter.mpr ⟨(ax_as_mem _ _ _ _).mpr ⟨Nat.zero_le _, ?_⟩, ?_⟩)
    · rw [Nat.sub_zero, List.getElem?_map, h5]; rfl
    · have e1 : (j == i) = false := by simpa using h3
      have e3 : (j == i + 1) = false := by simpa using h3'
      show (!(j == i) && (!(j == i + 1) && !(j + 1 == i && (ax_v g u).category == 2))) = true
      rw [e1, e3, ax_v_cat]
      by_cases e2 : j + 1 = i
      · have : ¬ u.category = 2 := fun q => h4 ⟨e2, q⟩
        simp [this]
      · simp [e2]
/-- the locals at a method's entry -/
def ax_en : List Value → Nat → List (Option Value)
  | [], n => List.replicate n none
  | v :: r, n => if v.category = 2 then some v :: none :: ax_en r (n - 2) else some v :: ax_en r (n - 1)
theorem ax_en_mem : ∀ (vs : List Value) (n i j : Nat) (w : Value), (j, w) ∈ ax_as i (ax_en vs n) → (j, w) ∈ lv_args i vs := by
  intro vs
  induction vs with
  | nil =>
    intro n i j w h
    exfalso
    obtain ⟨-, h1⟩ := (ax_as_mem _ _ _ _).mp h
    simp only [ax_en, List.getElem?_replicate] at h1
    split at h1 <;> cases h1
  | cons v r ih =>
    intro n i j w h
    unfold ax_en at h
    unfold lv_args
    by_cases hc : v.category = 2
    · rw [if_pos hc] at h
      simp only [ax_as] at h
      rcases List.mem_cons.mp h with h | h
      · cases h; first | exact List.mem_cons_self | (simp)
      · have := ih (n - 2) (i + 1 + 1) j w h
        first | (rw [if_pos hc]; exact List.mem_cons_of_mem _ this) | (simp [hc]; exact Or.inr this) | (refine List.mem_cons_of_mem _ ?_; simpa [hc] using this)
    · rw [if_neg hc] at h
      simp only [ax_as] at h
      rcases List.mem_cons.mp h with h | h
      · cases h; first | exact List.mem_cons_self | (simp)
      · have := ih (n - 1) (i + 1) j w h
        have hc1 : v.category = 1 := by cases v <;> first | rfl | exact absurd rfl hc
        first | (rw [if_neg hc]; exact List.mem_cons_of_mem _ this) | (refine List.mem_cons_of_mem _ ?_; simpa [hc1] using this)
end
