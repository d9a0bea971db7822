/-! ROWS OF THE ABSTRACT MACHINE: an instruction, a row; each out of the kit's row -/
theorem zok_i {kd : ZK} {x : Int} (h : zin32 x) : zok kd (0, x) := ⟨fun _ => h, fun q => (by cases q), fun q => (by cases q)⟩
theorem zok_l {kd : ZK} {x : Int} (h : zin64 x) : zok kd (1, x) := ⟨fun q => (by cases q), fun _ => h, fun q => (by cases q)⟩
theorem zok_r {kd : ZK} {x : Int} (h : zin32 x ∧ x < kd.length) : zok kd (2, x) := ⟨fun q => (by cases q), fun q => (by cases q), fun _ => h⟩
theorem zok_J {kd : ZK} : zok kd zJ := ⟨fun q => (by cases q), fun q => (by cases q), fun q => (by cases q)⟩
theorem zok_s {kd : ZK} {x : Int} : zok kd (3, x) := ⟨fun q => (by cases q), fun q => (by cases q), fun q => (by cases q)⟩
theorem zok_t {kd : ZK} {v : ZV} (h : 2 < v.1) : zok kd v := ⟨fun q => by omega, fun q => by omega, fun q => by omega⟩
theorem zok_4 {kd : ZK} {x : Int} : zok kd (4, x) := ⟨fun q => (by cases q), fun q => (by cases q), fun q => (by cases q)⟩
theorem zoks_cons {kd : ZK} {v : ZV} {l : List ZV} (h : zok kd v) (hl : ∀ u ∈ l, zok kd u) : ∀ u ∈ v :: l, zok kd u := fun u hu => (List.mem_cons.mp hu).elim (fun e => e ▸ h) (hl u)
theorem zoks_tail {kd : ZK} {v : ZV} {l : List ZV} (h : ∀ u ∈ v :: l, zok kd u) : ∀ u ∈ l, zok kd u := fun u hu => h u (List.mem_cons_of_mem _ hu)
theorem zoks_head {kd : ZK} {v : ZV} {l : List ZV} (h : ∀ u ∈ v :: l, zok kd u) : zok kd v := h v List.mem_cons_self
theorem zok_at {kd : ZK} {l : List ZV} {i : Nat} {v : ZV} (h : ∀ u ∈ l, zok kd u) (hi : l[i]? = some v) : zok kd v := h v (List.mem_of_getElem? hi)
theorem zi0 {kd : ZK} {x : Int} {l : List ZV} (h : ∀ u ∈ (0, x) :: l, zok kd u) : zin32 x := (zoks_head h).1 rfl
theorem zi1 {kd : ZK} {x : Int} {l : List ZV} (h : ∀ u ∈ (1, x) :: l, zok kd u) : zin64 x := (zoks_head h).2.1 rfl
/-! locals -/
def zst1 : List ZV → Nat → ZV → List ZV
  | [], _, _ => []
  | _ :: r, 0, v => v :: r
  | (1, x) :: r, 1, v => zJ :: zst1 r 0 v
  | u :: r, i + 1, v => u :: zst1 r i v
def zst2 : List ZV → Nat → ZV → List ZV
  | [], _, _ => []
  | _ :: [], 0, _ => []
  | _ :: _ :: r, 0, v => v :: zJ :: r
  | (1, x) :: r, 1, v => zJ :: zst2 r 0 v
  | u :: r, i + 1, v => u :: zst2 r i v
theorem zst1_at : ∀ (l : List ZV) (i : Nat) (v : ZV) (j : Nat) (u : ZV), (zst1 l i v)[j]? = some u → u.1 ≠ 9 → (j = i ∧ u = v) ∨ (j ≠ i ∧ l[j]? = some u ∧ ¬ (j + 1 = i ∧ u.1 = 1)) := by
  intro l
  induction l with
  | nil => intro i v j u h; simp [zst1] at h
  | cons w r ih =>
    intro i v j u h hu
    obtain ⟨t, x⟩ := w
    match i, t with
    | 0, t =>
      rw [show zst1 ((t, x) :: r) 0 v = v :: r by rw [zst1]] at h
      match j with
      | 0 => simp at h; exact Or.inl ⟨rfl, h.symm⟩
      | j + 1 => exact Or.inr ⟨by omega, by simpa using h, by omega⟩
    | 1, 1 =>
      rw [show zst1 ((1, x) :: r) 1 v = zJ :: zst1 r 0 v by rw [zst1]] at h
      match j with
      | 0 => simp at h; subst h; exact absurd rfl hu
      | j + 1 =>
        rcases ih 0 v j u (by simpa using h) hu with ⟨a, b⟩ | ⟨a, b, c⟩
        · exact Or.inl ⟨by omega, b⟩
        · exact Or.inr ⟨by omega, by simpa using b, by omega⟩
    | i + 1, t =>
      by_cases hc : i = 0 ∧ t = 1
      · obtain ⟨rfl, rfl⟩ := hc
        rw [show zst1 ((1, x) :: r) 1 v = zJ :: zst1 r 0 v by rw [zst1]] at h
        match j with
        | 0 => simp at h; subst h; exact absurd rfl hu
        | j + 1 =>
          rcases ih 0 v j u (by simpa using h) hu with ⟨a, b⟩ | ⟨a, b, c⟩
          · exact Or.inl ⟨by omega, b⟩
          · exact Or.inr ⟨by omega, by simpa using b, by omega⟩
      · have e : zst1 ((t, x) :: r) (i + 1) v = (t, x) :: zst1 r i v := by
          rw [zst1]
          intro _ h1 h2
          simp only [Prod.mk.injEq] at h1
          exact hc ⟨by simpa using h2, h1.1⟩
        rw [e] at h
        match j with
        | 0 =>
          simp at h
          subst h
          exact Or.inr ⟨by omega, by simp, fun q => hc ⟨by omega, q.2⟩⟩
        | j + 1 =>
          rcases ih i v j u (by simpa using h) hu with ⟨a, b⟩ | ⟨a, b, c⟩
          · exact Or.inl ⟨by omega, b⟩
          · exact Or.inr ⟨by omega, by simpa using b, fun q => c ⟨by omega, q.2⟩⟩
theorem zst2_at : ∀ (l : List ZV) (i : Nat) (v : ZV) (j : Nat) (u : ZV), (zst2 l i v)[j]? = some u → u.1 ≠ 9 → (j = i ∧ u = v) ∨ (j ≠ i ∧ j ≠ i + 1 ∧ l[j]? = some u ∧ ¬ (j + 1 = i ∧ u.1 = 1)) := by
  intro l
  induction l with
  | nil => intro i v j u h; simp [zst2] at h
  | cons w r ih =>
    intro i v j u h hu
    obtain ⟨t, x⟩ := w
    match i with
    | 0 =>
      match r with
      | [] => rw [show zst2 [(t, x)] 0 v = [] by rw [zst2]] at h; simp at h
      | w2 :: r =>
        rw [show zst2 ((t, x) :: w2 :: r) 0 v = v :: zJ :: r by rw [zst2]] at h
        match j with
        | 0 => simp at h; exact Or.inl ⟨rfl, h.symm⟩
        | 1 => simp at h; subst h; exact absurd rfl hu
        | j + 2 => exact Or.inr ⟨by omega, by omega, by simpa using h, by omega⟩
    | i + 1 =>
      by_cases hc : i = 0 ∧ t = 1
      · obtain ⟨rfl, rfl⟩ := hc
        rw [show zst2 ((1, x) :: r) 1 v = zJ :: zst2 r 0 v by rw [zst2]] at h
        match j with
        | 0 => simp at h; subst h; exact absurd rfl hu
        | j + 1 =>
          rcases ih 0 v j u (by simpa using h) hu with ⟨a, b⟩ | ⟨a, b, c, d⟩
          · exact Or.inl ⟨by omega, b⟩
          · exact Or.inr ⟨by omega, by omega, by simpa using c, by omega⟩
      · have e : zst2 ((t, x) :: r) (i + 1) v = (t, x) :: zst2 r i v := by
          rw [zst2]
          intro _ h1 h2
          simp only [Prod.mk.injEq] at h1
          exact hc ⟨by simpa using h2, h1.1⟩
        rw [e] at h
        match j with
        | 0 =>
          simp at h
          subst h
          exact Or.inr ⟨by omega, by omega, by simp, fun q => hc ⟨by omega, q.2⟩⟩
        | j + 1 =>
          rcases ih i v j u (by simpa using h) hu with ⟨a, b⟩ | ⟨a, b, c, d⟩
          · exact Or.inl ⟨by omega, b⟩
          · exact Or.inr ⟨by omega, by omega, by simpa using c, fun q => d ⟨by omega, q.2⟩⟩
theorem zst1_mem {l : List ZV} {i : Nat} {v u : ZV} (h : u ∈ zst1 l i v) : u = v ∨ u = zJ ∨ u ∈ l := by
  by_cases h9 : u.1 = 9
  · induction l generalizing i with
    | nil => simp [zst1] at h
    | cons w r ih =>
      obtain ⟨t, x⟩ := w
      match i with
      | 0 =>
        rw [show zst1 ((t, x) :: r) 0 v = v :: r by rw [zst1]] at h
        rcases List.mem_cons.mp h with e | e
        · exact Or.inl e
        · exact Or.inr (Or.inr (List.mem_cons_of_mem _ e))
      | i + 1 =>
        by_cases hc : i = 0 ∧ t = 1
        · obtain ⟨rfl, rfl⟩ := hc
          rw [show zst1 ((1, x) :: r) 1 v = zJ :: zst1 r 0 v by rw [zst1]] at h
          rcases List.mem_cons.mp h with e | e
          · exact Or.inr (Or.inl e)
          · rcases ih e with e | e | e
            · exact Or.inl e
            · exact Or.inr (Or.inl e)
            · exact Or.inr (Or.inr (List.mem_cons_of_mem _ e))
        · have e : zst1 ((t, x) :: r) (i + 1) v = (t, x) :: zst1 r i v := by
            rw [zst1]
            intro _ h1 h2
            simp only [Prod.mk.injEq] at h1
            exact hc ⟨by simpa using h2, h1.1⟩
          rw [e] at h
          rcases List.mem_cons.mp h with e | e
          · exact Or.inr (Or.inr (e ▸ List.mem_cons_self))
          · rcases ih e with e | e | e
            · exact Or.inl e
            · exact Or.inr (Or.inl e)
            · exact Or.inr (Or.inr (List.mem_cons_of_mem _ e))
  · obtain ⟨j, hj⟩ := List.getElem?_of_mem h
    rcases zst1_at l i v j u hj h9 with ⟨-, e⟩ | ⟨-, e, -⟩
    · exact Or.inl e
    · exact Or.inr (Or.inr (List.mem_of_getElem? e))
theorem zst2_mem {l : List ZV} {i : Nat} {v u : ZV} (h : u ∈ zst2 l i v) : u = v ∨ u = zJ ∨ u ∈ l := by
  by_cases h9 : u.1 = 9
  · induction l generalizing i with
    | nil => simp [zst2] at h
    | cons w r ih =>
      obtain ⟨t, x⟩ := w
      match i with
      | 0 =>
        match r with
        | [] => rw [show zst2 [(t, x)] 0 v = [] by rw [zst2]] at h; simp at h
        | w2 :: r =>
          rw [show zst2 ((t, x) :: w2 :: r) 0 v = v :: zJ :: r by rw [zst2]] at h
          rcases List.mem_cons.mp h with e | e
          · exact Or.inl e
          · rcases List.mem_cons.mp e with e | e
            · exact Or.inr (Or.inl e)
            · exact Or.inr (Or.inr (List.mem_cons_of_mem _ (List.mem_cons_of_mem _ e)))
      | i + 1 =>
        by_cases hc : i = 0 ∧ t = 1
        · obtain ⟨rfl, rfl⟩ := hc
          rw [show zst2 ((1, x) :: r) 1 v = zJ :: zst2 r 0 v by rw [zst2]] at h
          rcases List.mem_cons.mp h with e | e
          · exact Or.inr (Or.inl e)
          · rcases ih e with e | e | e
            · exact Or.inl e
            · exact Or.inr (Or.inl e)
            · exact Or.inr (Or.inr (List.mem_cons_of_mem _ e))
        · have e : zst2 ((t, x) :: r) (i + 1) v = (t, x) :: zst2 r i v := by
            rw [zst2]
            intro _ h1 h2
            simp only [Prod.mk.injEq] at h1
            exact hc ⟨by simpa using h2, h1.1⟩
          rw [e] at h
          rcases List.mem_cons.mp h with e | e
          · exact Or.inr (Or.inr (e ▸ List.mem_cons_self))
          · rcases ih e with e | e | e
            · exact Or.inl e
            · exact Or.inr (Or.inl e)
            · exact Or.inr (Or.inr (List.mem_cons_of_mem _ e))
  · obtain ⟨j, hj⟩ := List.getElem?_of_mem h
    rcases zst2_at l i v j u hj h9 with ⟨-, e⟩ | ⟨-, -, e, -⟩
    · exact Or.inl e
    · exact Or.inr (Or.inr (List.mem_of_getElem? e))
theorem zoks_st1 {kd : ZK} {l : List ZV} {i : Nat} {v : ZV} (hv : zok kd v) (h : ∀ u ∈ l, zok kd u) : ∀ u ∈ zst1 l i v, zok kd u := fun u hu => by
  rcases zst1_mem hu with e | e | e
  · exact e ▸ hv
  · exact e ▸ zok_J
  · exact h u e
theorem zoks_st2 {kd : ZK} {l : List ZV} {i : Nat} {v : ZV} (hv : zok kd v) (h : ∀ u ∈ l, zok kd u) : ∀ u ∈ zst2 l i v, zok kd u := fun u hu => by
  rcases zst2_mem hu with e | e | e
  · exact e ▸ hv
  · exact e ▸ zok_J
  · exact h u e
theorem zc_cat (E : ZE) (ad : Nat → Nat) (v : ZV) : (zc E ad v).category = 2 ↔ v.1 = 1 := by
  obtain ⟨t, x⟩ := v
  match t with
  | 0 => simp [zc, Value.category]
  | 1 => simp [zc, Value.category]
  | 2 =>
    simp only [zc, zrf]
    split <;> simp [va_rf, Value.category]
  | 3 => simp [zc, Value.category]
  | 4 => simp [zc, Value.category]
  | 5 => simp [zc, Value.category]
  | 6 =>
    simp only [zc]
    cases E.2.2.2.2.2 <;> simp [va_rf, Value.category]
  | t + 7 => simp [zc, Value.category]
theorem zc_cat1 (E : ZE) (ad : Nat → Nat) (v : ZV) (h : v.1 ≠ 1) : (zc E ad v).category = 1 := by
  rcases lv_cat (zc E ad v) with q | q
  · exact q
  · exact absurd ((zc_cat E ad v).mp q) h
/-- the known locals as the kit lists them -/
def zlv (E : ZE) (ad : Nat → Nat) (ls : List ZV) : List (Nat × Value) := (List.range ls.length).filterMap (fun j => match ls[j]? with
  | some v => if v.1 = 9 then none else some (j, zc E ad v)
  | none => none)
theorem zlv_mem {E : ZE} {ad : Nat → Nat} {ls : List ZV} {j : Nat} {v : ZV} (h : ls[j]? = some v) (h9 : v.1 ≠ 9) : (j, zc E ad v) ∈ zlv E ad ls := by
  have hj : j < ls.length := (List.getElem?_eq_some_iff.mp h).1
  refine List.mem_filterMap.mpr ⟨j, List.mem_range.mpr hj, ?_⟩
  simp [h, h9]
theorem zlv_of {E : ZE} {ad : Nat → Nat} {ls : List ZV} {q : Nat × Value} (h : q ∈ zlv E ad ls) : ∃ v, ls[q.1]? = some v ∧ v.1 ≠ 9 ∧ q.2 = zc E ad v := by
  obtain ⟨j, -, hj⟩ := List.mem_filterMap.mp h
  cases hv : ls[j]? with
  | none => simp [hv] at hj
  | some v =>
    simp only [hv] at hj
    by_cases h9 : v.1 = 9
    · simp [h9] at hj
    · simp [h9] at hj
      rw [← hj]
      exact ⟨v, hv, h9, rfl⟩
theorem zloc.has {E : ZE} {ad : Nat → Nat} {lsr : Array Slot} {n : Nat} {ls : List ZV} (h : zloc E ad lsr n ls) : lv_has lsr n (zlv E ad ls) :=
  ⟨h.1, h.2.1, fun q hq => by
    obtain ⟨v, h1, h2, h3⟩ := zlv_of hq
    rw [h3]
    exact h.2.2 q.1 v h1 h2⟩
theorem zloc.st1 {E : ZE} {ad : Nat → Nat} {lsr : Array Slot} {n i : Nat} {ls : List ZV} {v : ZV} {x : Value} (hx : x = zc E ad v) (h : lv_has lsr n ((i, x) :: (zlv E ad ls).filter (fun q => !(q.1 == i) && !(q.1 + 1 == i && q.2.category == 2)))) : zloc E ad lsr n (zst1 ls i v) := by
  subst hx
  refine ⟨h.1, h.2.1, fun j u hj h9 => ?_⟩
  rcases zst1_at ls i v j u hj h9 with ⟨rfl, rfl⟩ | ⟨h1, h2, h3⟩
  · exact h.2.2 _ List.mem_cons_self
  · refine h.2.2 (j, zc E ad u) (List.mem_cons_of_mem _ (List.mem_filter.mpr ⟨zlv_mem h2 h9, ?_⟩))
    simp only [Bool.and_eq_true, Bool.not_eq_true', beq_eq_false_iff_ne, Bool.and_eq_false_iff]
    refine ⟨h1, ?_⟩
    by_cases e : j + 1 = i
    · exact Or.inr (fun z => h3 ⟨e, (zc_cat E ad u).mp z⟩)
    · exact Or.inl e
theorem zloc.st2 {E : ZE} {ad : Nat → Nat} {lsr : Array Slot} {n i : Nat} {ls : List ZV} {v : ZV} {x : Value} (hx : x = zc E ad v) (h : lv_has lsr n ((i, x) :: (zlv E ad ls).filter (fun q => !(q.1 == i) && (!(q.1 == i + 1) && !(q.1 + 1 == i && q.2.category == 2))))) : zloc E ad lsr n (zst2 ls i v) := by
  subst hx
  refine ⟨h.1, h.2.1, fun j u hj h9 => ?_⟩
  rcases zst2_at ls i v j u hj h9 with ⟨rfl, rfl⟩ | ⟨h1, h1', h2, h3⟩
  · exact h.2.2 _ List.mem_cons_self
  · refine h.2.2 (j, zc E ad u) (List.mem_cons_of_mem _ (List.mem_filter.mpr ⟨zlv_mem h2 h9, ?_⟩))
    simp only [Bool.and_eq_true, Bool.not_eq_true', beq_eq_false_iff_ne, Bool.and_eq_false_iff]
    refine ⟨h1, h1', ?_⟩
    by_cases e : j + 1 = i
    · exact Or.inr (fun z => h3 ⟨e, (zc_cat E ad u).mp z⟩)
    · exact Or.inl e
/-! entry -/
def zent : List ZV → List ZV
  | [] => []
  | (1, x) :: r => (1, x) :: zJ :: zent r
  | u :: r => u :: zent r
def zent0 (as : List ZV) (n : Nat) : List ZV := zent as ++ List.replicate (n - (zent as).length) zJ
section EVR
variable {X : Option (Nat × (Nat → Int))} {d : Nat} {M : ZMeth} {mc ms pc : Nat} {ls st : List ZV} {kd : ZK} {m : ZM} {Q : ZQ}
/-- a step that changes neither the heap nor the locals -/
theorem EvX.go {pc2 : Nat} {st2 : List ZV} (hv : (∀ v ∈ ls, zok kd v) → (∀ v ∈ st, zok kd v) → ∀ v ∈ st2, zok kd v)
    (h : ∀ {p : Program} {l : Launch} {e : Env} {R : Room} {s : State} {mi : MethodId} {args : Array Value} {below : List Frame} {meth : Method} {c : Code} {H : Heap} {locs : List Loc} {cells slots : Nat} {Qs : State → Prop} {lsr : Array Slot} {E : ZE} {ad : Nat → Nat}, (∀ v ∈ ls, zok kd v) → (∀ v ∈ st, zok kd v) → ZFix M p s mi args meth c → zloc E ad lsr M.2.2.1 ls →
      W p l e R s mi args below meth c H locs cells slots Qs (F0 mi pc2 lsr (zst E ad st2)) → W p l e R s mi args below meth c H locs cells slots Qs (F0 mi pc lsr (zst E ad st)))
    (k : EvX X d M mc ms pc2 ls st2 kd m Q) : EvX X d M mc ms pc ls st kd m Q := by
  intro hm hl hs E p l e R s mi args below meth c H locs cells slots D A ad ca tys lsr Qs hF hR hX hZ hS hA hE hL hQ
  exact h hl hs hF hL (k hm hl (hv hl hs) E p l e R s mi args below meth c H locs cells slots D A ad ca tys lsr Qs hF hR hX hZ hS hA hE hL hQ)
/-- a step that stores a local -/
theorem EvX.goL {pc2 : Nat} {ls2 st2 : List ZV} (hv : (∀ v ∈ ls, zok kd v) → (∀ v ∈ st, zok kd v) → (∀ v ∈ ls2, zok kd v) ∧ ∀ v ∈ st2, zok kd v)
    (h : ∀ {p : Program} {l : Launch} {e : Env} {R : Room} {s : State} {mi : MethodId} {args : Array Value} {below : List Frame} {meth : Method} {c : Code} {H : Heap} {locs : List Loc} {cells slots : Nat} {Qs : State → Prop} {lsr : Array Slot} {E : ZE} {ad : Nat → Nat}, (∀ v ∈ ls, zok kd v) → (∀ v ∈ st, zok kd v) → ZFix M p s mi args meth c → zloc E ad lsr M.2.2.1 ls →
      (∀ lsr2 : Array Slot, zloc E ad lsr2 M.2.2.1 ls2 → W p l e R s mi args below meth c H locs cells slots Qs (F0 mi pc2 lsr2 (zst E ad st2))) → W p l e R s mi args below meth c H locs cells slots Qs (F0 mi pc lsr (zst E ad st)))
    (k : EvX X d M mc ms pc2 ls2 st2 kd m Q) : EvX X d M mc ms pc ls st kd m Q := by
  intro hm hl hs E p l e R s mi args below meth c H locs cells slots D A ad ca tys lsr Qs hF hR hX hZ hS hA hE hL hQ
  exact h hl hs hF hL (fun lsr2 hL2 => k hm (hv hl hs).1 (hv hl hs).2 E p l e R s mi args below meth c H locs cells slots D A ad ca tys lsr2 Qs hF hR hX hZ hS hA hE hL2 hQ)
/-- a two-way branch -/
theorem EvX.br {pt pf : Nat} {st2 : List ZV} {C : Prop} (hv : (∀ v ∈ st, zok kd v) → ∀ v ∈ st2, zok kd v)
    (h : ∀ {p : Program} {l : Launch} {e : Env} {R : Room} {s : State} {mi : MethodId} {args : Array Value} {below : List Frame} {meth : Method} {c : Code} {H : Heap} {locs : List Loc} {cells slots : Nat} {Qs : State → Prop} {lsr : Array Slot} {E : ZE} {ad : Nat → Nat}, (∀ v ∈ st, zok kd v) → ZFix M p s mi args meth c →
      (C → W p l e R s mi args below meth c H locs cells slots Qs (F0 mi pt lsr (zst E ad st2))) → (¬ C → W p l e R s mi args below meth c H locs cells slots Qs (F0 mi pf lsr (zst E ad st2))) → W p l e R s mi args below meth c H locs cells slots Qs (F0 mi pc lsr (zst E ad st)))
    (kt : C → EvX X d M mc ms pt ls st2 kd m Q) (kf : ¬ C → EvX X d M mc ms pf ls st2 kd m Q) : EvX X d M mc ms pc ls st kd m Q := by
  intro hm hl hs E p l e R s mi args below meth c H locs cells slots D A ad ca tys lsr Qs hF hR hX hZ hS hA hE hL hQ
  exact h hs hF (fun hc => kt hc hm hl (hv hs) E p l e R s mi args below meth c H locs cells slots D A ad ca tys lsr Qs hF hR hX hZ hS hA hE hL hQ) (fun hc => kf hc hm hl (hv hs) E p l e R s mi args below meth c H locs cells slots D A ad ca tys lsr Qs hF hR hX hZ hS hA hE hL hQ)
theorem EvX.iconst {n : Int} (hd : decode M.2.1 pc = .ok (.iconst n, 1)) (hn : zin32 n) (k : EvX X d M mc ms (pc + 1) ls ((0, n) :: st) kd m Q) : EvX X d M mc ms pc ls st kd m Q :=
  EvX.go (fun _ h => zoks_cons (zok_i hn) h) (fun _ _ hF _ hk => lv_iconst hF.1 hF.2.1 hd rfl hk) k
theorem EvX.bipush {n : Int} (hd : decode M.2.1 pc = .ok (.bipush n, 2)) (hn : zin32 n) (hv : (Int8.ofInt n).toInt32 = Int32.ofInt n) (k : EvX X d M mc ms (pc + 2) ls ((0, n) :: st) kd m Q) : EvX X d M mc ms pc ls st kd m Q :=
  EvX.go (fun _ h => zoks_cons (zok_i hn) h) (fun _ _ hF _ hk => lv_bipush hF.1 hF.2.1 hd hv hk) k
theorem EvX.sipush {n : Int} (hd : decode M.2.1 pc = .ok (.sipush n, 3)) (hn : zin32 n) (hv : (Int16.ofInt n).toInt32 = Int32.ofInt n) (k : EvX X d M mc ms (pc + 3) ls ((0, n) :: st) kd m Q) : EvX X d M mc ms pc ls st kd m Q :=
  EvX.go (fun _ h => zoks_cons (zok_i hn) h) (fun _ _ hF _ hk => lv_sipush hF.1 hF.2.1 hd hv hk) k
theorem EvX.lconst {n : Fin 2} (hd : decode M.2.1 pc = .ok (.lconst n, 1)) (k : EvX X d M mc ms (pc + 1) ls ((1, (n : Nat)) :: st) kd m Q) : EvX X d M mc ms pc ls st kd m Q :=
  EvX.go (fun _ h => zoks_cons (zok_l (by have := n.isLt; simp only [zin64]; omega)) h) (fun _ _ hF _ hk => lv_lconst hF.1 hF.2.1 hd rfl (by
    have e : Int64.ofNat (n : Nat) = Int64.ofInt ((n : Nat) : Int) := rfl
    rw [e]; exact hk)) k
theorem EvX.ldci {idx : Nat} {n : Int} (hd : decode M.2.1 pc = .ok (.ldc idx, 2)) (hn : zin32 n) (hc : Cond.constant M.1.cls idx (Int32.ofInt n) ∈ zWs) (k : EvX X d M mc ms (pc + 2) ls ((0, n) :: st) kd m Q) : EvX X d M mc ms pc ls st kd m Q :=
  EvX.go (fun _ h => zoks_cons (zok_i hn) h) (fun _ _ hF _ hk => lv_ldc hF.1 hF.2.1 hF.2.2.2.1 (hF.2.2.2.2.1 _ hc) hd hk) k
theorem EvX.ldcwi {idx : Nat} {n : Int} (hd : decode M.2.1 pc = .ok (.ldc_w idx, 3)) (hn : zin32 n) (hc : Cond.constant M.1.cls idx (Int32.ofInt n) ∈ zWs) (k : EvX X d M mc ms (pc + 3) ls ((0, n) :: st) kd m Q) : EvX X d M mc ms pc ls st kd m Q :=
  EvX.go (fun _ h => zoks_cons (zok_i hn) h) (fun _ _ hF _ hk => lv_ldcw hF.1 hF.2.1 hF.2.2.2.1 (hF.2.2.2.2.1 _ hc) hd hk) k
theorem EvX.ldc2 {idx : Nat} {n : Int} (hd : decode M.2.1 pc = .ok (.ldc2_w idx, 3)) (hn : zin64 n) (hc : Cond.constantLong M.1.cls idx (Int64.ofInt n) ∈ zWs) (k : EvX X d M mc ms (pc + 3) ls ((1, n) :: st) kd m Q) : EvX X d M mc ms pc ls st kd m Q :=
  EvX.go (fun _ h => zoks_cons (zok_l hn) h) (fun _ _ hF _ hk => lv_ldc2 hF.1 hF.2.1 hF.2.2.2.1 (hF.2.2.2.2.1 _ hc) hd hk) k
theorem EvX.null (hd : decode M.2.1 pc = .ok (.aconst_null, 1)) (k : EvX X d M mc ms (pc + 1) ls ((2, -1) :: st) kd m Q) : EvX X d M mc ms pc ls st kd m Q :=
  EvX.go (fun _ h => zoks_cons (zok_r ⟨⟨by decide, by decide⟩, by omega⟩) h) (fun _ _ hF _ hk => lv_null hF.1 hF.2.1 hd hk) k
/-! String constants -/
theorem EvX.ldcS {idx i : Nat} {tx : String} (hd : decode M.2.1 pc = .ok (.ldc idx, 2)) (hc : (M.1.cls, idx, tx, i) ∈ zStr) (k : EvX X d M mc ms (pc + 2) ls ((3, (i : Int)) :: st) kd m Q) : EvX X d M mc ms pc ls st kd m Q := by
  intro hm hl hs E p l e R s mi args below meth c H locs cells slots D A ad ca tys lsr Qs hF hR hX hZ hS hA hE hL hQ
  exact va_ldcS hF.1 hF.2.1 hF.2.2.2.1 (hE.2.2.1 _ hc) hd (k hm hl (zoks_cons zok_s hs) E p l e R s mi args below meth c H locs cells slots D A ad ca tys lsr Qs hF hR hX hZ hS hA hE hL hQ)
theorem EvX.ldcwS {idx i : Nat} {tx : String} (hd : decode M.2.1 pc = .ok (.ldc_w idx, 3)) (hc : (M.1.cls, idx, tx, i) ∈ zStr) (k : EvX X d M mc ms (pc + 3) ls ((3, (i : Int)) :: st) kd m Q) : EvX X d M mc ms pc ls st kd m Q := by
  intro hm hl hs E p l e R s mi args below meth c H locs cells slots D A ad ca tys lsr Qs hF hR hX hZ hS hA hE hL hQ T hT Y
  obtain ⟨t, a1, b1⟩ := k hm hl (zoks_cons zok_s hs) E p l e R s mi args below meth c H locs cells slots D A ad ca tys lsr Qs hF hR hX hZ hS hA hE hL hQ T hT Y
  have hZ2 := hE.2.2.1 _ hc
  exact ⟨t, Y.ldcStringW hF.1 hF.2.2.2.1 (text := tx) (a := E.1 i) hZ2.1 hZ2.2 (g := F0 mi pc lsr (zst E ad st)) rfl (by rw [hF.2.1]; exact hd) t a1, b1⟩
/-! locals -/
theorem EvX.iload {i : Nat} {x : Int} (hd : decode M.2.1 pc = .ok (.iload i, 2)) (hi : ls[i]? = some (0, x)) (k : EvX X d M mc ms (pc + 2) ls ((0, x) :: st) kd m Q) : EvX X d M mc ms pc ls st kd m Q :=
  EvX.go (fun hl h => zoks_cons (zok_at hl hi) h) (fun _ _ hF hL hk => lv_iload hF.1 hF.2.1 hd (hL.2.2 i _ hi (by simp)) hk) k
theorem EvX.iload_n {i : Fin 4} {x : Int} (hd : decode M.2.1 pc = .ok (.iload_n i, 1)) (hi : ls[(i : Nat)]? = some (0, x)) (k : EvX X d M mc ms (pc + 1) ls ((0, x) :: st) kd m Q) : EvX X d M mc ms pc ls st kd m Q :=
  EvX.go (fun hl h => zoks_cons (zok_at hl hi) h) (fun _ _ hF hL hk => lv_iload_n hF.1 hF.2.1 hd rfl (hL.2.2 i _ hi (by simp)) hk) k
theorem EvX.lload {i : Nat} {x : Int} (hd : decode M.2.1 pc = .ok (.lload i, 2)) (hi : ls[i]? = some (1, x)) (k : EvX X d M mc ms (pc + 2) ls ((1, x) :: st) kd m Q) : EvX X d M mc ms pc ls st kd m Q :=
  EvX.go (fun hl h => zoks_cons (zok_at hl hi) h) (fun _ _ hF hL hk => lv_lload hF.1 hF.2.1 hd (hL.2.2 i _ hi (by simp)) hk) k
theorem EvX.lload_n {i : Fin 4} {x : Int} (hd : decode M.2.1 pc = .ok (.lload_n i, 1)) (hi : ls[(i : Nat)]? = some (1, x)) (k : EvX X d M mc ms (pc + 1) ls ((1, x) :: st) kd m Q) : EvX X d M mc ms pc ls st kd m Q :=
  EvX.go (fun hl h => zoks_cons (zok_at hl hi) h) (fun _ _ hF hL hk => lv_lload_n hF.1 hF.2.1 hd rfl (hL.2.2 i _ hi (by simp)) hk) k
theorem zc_ref {E : ZE} {ad : Nat → Nat} {x : Int} : (x < 0 ∧ zc E ad (2, x) = .null) ∨ (0 ≤ x ∧ zc E ad (2, x) = .ref (ad x.toNat)) := by
  by_cases h : x < 0
  · exact Or.inl ⟨h, by simp [zc, zrf, h, va_rf]⟩
  · exact Or.inr ⟨by omega, by simp [zc, zrf, h, va_rf]⟩
theorem zc_ref0 {E : ZE} {ad : Nat → Nat} {x : Int} (h : 0 ≤ x) : zc E ad (2, x) = .ref (ad x.toNat) := by
  rcases zc_ref (E := E) (ad := ad) (x := x) with ⟨a, b⟩ | ⟨a, b⟩
  · omega
  · exact b
/-- a value that is a reference: of the heap, a String constant, the script -/
def zisr (v : ZV) : Prop := v.1 = 2 ∨ v.1 = 3 ∨ v.1 = 4 ∨ v.1 = 5 ∨ v.1 = 6
theorem zc_isr {E : ZE} {ad : Nat → Nat} {v : ZV} (h : zisr v) : zc E ad v = .null ∨ ∃ a, zc E ad v = .ref a := by
  obtain ⟨t, x⟩ := v
  rcases h with h | h | h | h | h <;> (dsimp only at h; subst h)
  · rcases zc_ref (E := E) (ad := ad) (x := x) with ⟨-, b⟩ | ⟨-, b⟩
    · exact Or.inl b
    · exact Or.inr ⟨_, b⟩
  · exact Or.inr ⟨_, rfl⟩
  · exact Or.inr ⟨_, rfl⟩
  · exact Or.inr ⟨_, rfl⟩
  · show va_rf E.2.2.2.2.2 = _ ∨ ∃ a, va_rf E.2.2.2.2.2 = _
    cases E.2.2.2.2.2
    · exact Or.inl rfl
    · exact Or.inr ⟨_, rfl⟩
theorem EvX.aload {i : Nat} {v : ZV} (hd : decode M.2.1 pc = .ok (.aload i, 2)) (hi : ls[i]? = some v) (hr : zisr v) (k : EvX X d M mc ms (pc + 2) ls (v :: st) kd m Q) : EvX X d M mc ms pc ls st kd m Q :=
  EvX.go (fun hl h => zoks_cons (zok_at hl hi) h) (fun {p l e R s mi args below meth c H locs cells slots Qs lsr E ad} _ _ hF hL hk => by
    have h9 : v.1 ≠ 9 := by rcases hr with q | q | q | q | q <;> omega
    have g := hL.2.2 i _ hi h9
    have hk : W p l e R s mi args below meth c H locs cells slots Qs (F0 mi (pc + 2) lsr (zc E ad v :: zst E ad st)) := hk
    rcases zc_isr (E := E) (ad := ad) hr with q | ⟨a, q⟩ <;> rw [q] at g hk
    · exact lv_aloadN hF.1 hF.2.1 hd g hk
    · exact lv_aload hF.1 hF.2.1 hd g hk) k
theorem EvX.aload_n {i : Fin 4} {v : ZV} (hd : decode M.2.1 pc = .ok (.aload_n i, 1)) (hi : ls[(i : Nat)]? = some v) (hr : zisr v) (k : EvX X d M mc ms (pc + 1) ls (v :: st) kd m Q) : EvX X d M mc ms pc ls st kd m Q :=
  EvX.go (fun hl h => zoks_cons (zok_at hl hi) h) (fun {p l e R s mi args below meth c H locs cells slots Qs lsr E ad} _ _ hF hL hk => by
    have h9 : v.1 ≠ 9 := by rcases hr with q | q | q | q | q <;> omega
    have g := hL.2.2 i _ hi h9
    have hk : W p l e R s mi args below meth c H locs cells slots Qs (F0 mi (pc + 1) lsr (zc E ad v :: zst E ad st)) := hk
    rcases zc_isr (E := E) (ad := ad) hr with q | ⟨a, q⟩ <;> rw [q] at g hk
    · exact lv_aload_nN hF.1 hF.2.1 hd rfl g hk
    · exact lv_aload_n hF.1 hF.2.1 hd rfl g hk) k
theorem EvX.istore {i : Nat} {x : Int} (hd : decode M.2.1 pc = .ok (.istore i, 2)) (hi : i < M.2.2.1) (k : EvX X d M mc ms (pc + 2) (zst1 ls i (0, x)) st kd m Q) : EvX X d M mc ms pc ls ((0, x) :: st) kd m Q :=
  EvX.goL (fun hl h => ⟨zoks_st1 (zoks_head h) hl, zoks_tail h⟩) (fun _ _ hF hL hk => lv_istore hF.1 hF.2.1 hd hL.has hi rfl (fun lsr2 h2 => hk lsr2 (zloc.st1 rfl h2))) k
theorem EvX.istore_n {i : Fin 4} {x : Int} (hd : decode M.2.1 pc = .ok (.istore_n i, 1)) (hi : (i : Nat) < M.2.2.1) (k : EvX X d M mc ms (pc + 1) (zst1 ls i (0, x)) st kd m Q) : EvX X d M mc ms pc ls ((0, x) :: st) kd m Q :=
  EvX.goL (fun hl h => ⟨zoks_st1 (zoks_head h) hl, zoks_tail h⟩) (fun _ _ hF hL hk => lv_istore_n hF.1 hF.2.1 hd rfl hL.has hi rfl (fun lsr2 h2 => hk lsr2 (zloc.st1 rfl h2))) k
theorem EvX.lstore {i : Nat} {x : Int} (hd : decode M.2.1 pc = .ok (.lstore i, 2)) (hi : i + 1 < M.2.2.1) (k : EvX X d M mc ms (pc + 2) (zst2 ls i (1, x)) st kd m Q) : EvX X d M mc ms pc ls ((1, x) :: st) kd m Q :=
  EvX.goL (fun hl h => ⟨zoks_st2 (zoks_head h) hl, zoks_tail h⟩) (fun _ _ hF hL hk => lv_lstore hF.1 hF.2.1 hd hL.has hi rfl (fun lsr2 h2 => hk lsr2 (zloc.st2 rfl h2))) k
theorem EvX.lstore_n {i : Fin 4} {x : Int} (hd : decode M.2.1 pc = .ok (.lstore_n i, 1)) (hi : (i : Nat) + 1 < M.2.2.1) (k : EvX X d M mc ms (pc + 1) (zst2 ls i (1, x)) st kd m Q) : EvX X d M mc ms pc ls ((1, x) :: st) kd m Q :=
  EvX.goL (fun hl h => ⟨zoks_st2 (zoks_head h) hl, zoks_tail h⟩) (fun _ _ hF hL hk => lv_lstore_n hF.1 hF.2.1 hd rfl hL.has hi rfl (fun lsr2 h2 => hk lsr2 (zloc.st2 rfl h2))) k
theorem EvX.astore {i : Nat} {v : ZV} (hd : decode M.2.1 pc = .ok (.astore i, 2)) (hr : zisr v) (hi : i < M.2.2.1) (k : EvX X d M mc ms (pc + 2) (zst1 ls i v) st kd m Q) : EvX X d M mc ms pc ls (v :: st) kd m Q :=
  EvX.goL (fun hl h => ⟨zoks_st1 (zoks_head h) hl, zoks_tail h⟩) (fun {p l e R s mi args below meth c H locs cells slots Qs lsr E ad} _ _ hF hL hk => by
    show W p l e R s mi args below meth c H locs cells slots Qs (F0 mi pc lsr (zc E ad v :: zst E ad st))
    rcases zc_isr (E := E) (ad := ad) hr with q | ⟨a, q⟩ <;> rw [q]
    · exact lv_astoreN hF.1 hF.2.1 hd hL.has hi rfl (fun lsr2 h2 => hk lsr2 (zloc.st1 q.symm h2))
    · exact lv_astore hF.1 hF.2.1 hd hL.has hi rfl (fun lsr2 h2 => hk lsr2 (zloc.st1 q.symm h2))) k
theorem EvX.astore_n {i : Fin 4} {v : ZV} (hd : decode M.2.1 pc = .ok (.astore_n i, 1)) (hr : zisr v) (hi : (i : Nat) < M.2.2.1) (k : EvX X d M mc ms (pc + 1) (zst1 ls i v) st kd m Q) : EvX X d M mc ms pc ls (v :: st) kd m Q :=
  EvX.goL (fun hl h => ⟨zoks_st1 (zoks_head h) hl, zoks_tail h⟩) (fun {p l e R s mi args below meth c H locs cells slots Qs lsr E ad} _ _ hF hL hk => by
    show W p l e R s mi args below meth c H locs cells slots Qs (F0 mi pc lsr (zc E ad v :: zst E ad st))
    rcases zc_isr (E := E) (ad := ad) hr with q | ⟨a, q⟩ <;> rw [q]
    · exact lv_astore_nN hF.1 hF.2.1 hd rfl hL.has hi rfl (fun lsr2 h2 => hk lsr2 (zloc.st1 q.symm h2))
    · exact lv_astore_n hF.1 hF.2.1 hd rfl hL.has hi rfl (fun lsr2 h2 => hk lsr2 (zloc.st1 q.symm h2))) k
theorem EvX.iinc {i : Nat} {n x : Int} (hd : decode M.2.1 pc = .ok (.iinc i n, 3)) (hx : ls[i]? = some (0, x)) (hi : i < M.2.2.1) (k : EvX X d M mc ms (pc + 3) (zst1 ls i (0, iw (x + n))) st kd m Q) : EvX X d M mc ms pc ls st kd m Q :=
  EvX.goL (fun hl h => ⟨zoks_st1 (zok_i (zin_iw _)) hl, h⟩) (fun {p l e R s mi args below meth c H locs cells slots Qs lsr E ad} _ _ hF hL hk => by
    obtain ⟨j, hj⟩ := List.getElem?_of_mem (zlv_mem (E := E) (ad := ad) hx (by simp))
    exact lv_iinc (k := j) (x := Int32.ofInt x) (v := Int32.ofInt x + Int32.ofInt n) hF.1 hF.2.1 hd hL.has hj rfl hi rfl (fun lsr2 h2 => hk lsr2 (zloc.st1 (by show Value.int _ = Value.int _; rw [zi_iw, Int32.ofInt_add]) h2))) k
/-! arithmetic -/
theorem EvX.iadd {x y : Int} (hd : decode M.2.1 pc = .ok (.iadd, 1)) (k : EvX X d M mc ms (pc + 1) ls ((0, iw (x + y)) :: st) kd m Q) : EvX X d M mc ms pc ls ((0, y) :: (0, x) :: st) kd m Q :=
  EvX.go (fun _ h => zoks_cons (zok_i (zin_iw _)) (zoks_tail (zoks_tail h))) (fun {p l e R s mi args below meth c H locs cells slots Qs lsr E ad} _ _ hF _ hk => lv_iadd hF.1 hF.2.1 hd (by
    have hk : W p l e R s mi args below meth c H locs cells slots Qs (F0 mi (pc + 1) lsr (.int (Int32.ofInt (iw (x + y))) :: zst E ad st)) := hk
    rw [zi_iw, Int32.ofInt_add] at hk; exact hk)) k
theorem EvX.isub {x y : Int} (hd : decode M.2.1 pc = .ok (.isub, 1)) (k : EvX X d M mc ms (pc + 1) ls ((0, iw (x - y)) :: st) kd m Q) : EvX X d M mc ms pc ls ((0, y) :: (0, x) :: st) kd m Q :=
  EvX.go (fun _ h => zoks_cons (zok_i (zin_iw _)) (zoks_tail (zoks_tail h))) (fun {p l e R s mi args below meth c H locs cells slots Qs lsr E ad} _ _ hF _ hk => lv_isub hF.1 hF.2.1 hd (by
    have hk : W p l e R s mi args below meth c H locs cells slots Qs (F0 mi (pc + 1) lsr (.int (Int32.ofInt (iw (x - y))) :: zst E ad st)) := hk
    rw [zi_iw, Int32.ofInt_sub] at hk; exact hk)) k
theorem EvX.imul {x y : Int} (hd : decode M.2.1 pc = .ok (.imul, 1)) (k : EvX X d M mc ms (pc + 1) ls ((0, iw (x * y)) :: st) kd m Q) : EvX X d M mc ms pc ls ((0, y) :: (0, x) :: st) kd m Q :=
  EvX.go (fun _ h => zoks_cons (zok_i (zin_iw _)) (zoks_tail (zoks_tail h))) (fun {p l e R s mi args below meth c H locs cells slots Qs lsr E ad} _ _ hF _ hk => lv_imul hF.1 hF.2.1 hd (by
    have hk : W p l e R s mi args below meth c H locs cells slots Qs (F0 mi (pc + 1) lsr (.int (Int32.ofInt (iw (x * y))) :: zst E ad st)) := hk
    rw [zi_iw, Int32.ofInt_mul] at hk; exact hk)) k
theorem EvX.ineg {x : Int} (hd : decode M.2.1 pc = .ok (.ineg, 1)) (k : EvX X d M mc ms (pc + 1) ls ((0, iw (-x)) :: st) kd m Q) : EvX X d M mc ms pc ls ((0, x) :: st) kd m Q :=
  EvX.go (fun _ h => zoks_cons (zok_i (zin_iw _)) (zoks_tail h)) (fun {p l e R s mi args below meth c H locs cells slots Qs lsr E ad} _ _ hF _ hk => lv_ineg hF.1 hF.2.1 hd (by
    have hk : W p l e R s mi args below meth c H locs cells slots Qs (F0 mi (pc + 1) lsr (.int (Int32.ofInt (iw (-x))) :: zst E ad st)) := hk
    rw [zi_iw, Int32.ofInt_neg] at hk; exact hk)) k
theorem EvX.idiv {x y : Int} (hd : decode M.2.1 pc = .ok (.idiv, 1)) (hy : y ≠ 0) (k : EvX X d M mc ms (pc + 1) ls ((0, iw (x.tdiv y)) :: st) kd m Q) : EvX X d M mc ms pc ls ((0, y) :: (0, x) :: st) kd m Q :=
  EvX.go (fun _ h => zoks_cons (zok_i (zin_iw _)) (zoks_tail (zoks_tail h))) (fun {p l e R s mi args below meth c H locs cells slots Qs lsr E ad} _ hs hF _ hk => lv_idiv hF.1 hF.2.1 hd (fun z => hy ((zi_inj (zi0 hs) zin_0).mp z)) (by
    have hk : W p l e R s mi args below meth c H locs cells slots Qs (F0 mi (pc + 1) lsr (.int (Int32.ofInt (iw (x.tdiv y))) :: zst E ad st)) := hk
    rw [zi_div (zi0 (zoks_tail hs)) (zi0 hs)] at hk; exact hk)) k
theorem EvX.irem {x y : Int} (hd : decode M.2.1 pc = .ok (.irem, 1)) (hy : y ≠ 0) (k : EvX X d M mc ms (pc + 1) ls ((0, x.tmod y) :: st) kd m Q) : EvX X d M mc ms pc ls ((0, y) :: (0, x) :: st) kd m Q :=
  EvX.go (fun _ h => zoks_cons (zok_i (zin_tmod (zi0 (zoks_tail h)))) (zoks_tail (zoks_tail h))) (fun {p l e R s mi args below meth c H locs cells slots Qs lsr E ad} _ hs hF _ hk => lv_irem hF.1 hF.2.1 hd (fun z => hy ((zi_inj (zi0 hs) zin_0).mp z)) (by
    have hk : W p l e R s mi args below meth c H locs cells slots Qs (F0 mi (pc + 1) lsr (.int (Int32.ofInt (x.tmod y)) :: zst E ad st)) := hk
    rw [zi_rem (zi0 (zoks_tail hs)) (zi0 hs)] at hk; exact hk)) k
def zand (x y : Int) : Int := (Int32.ofInt x &&& Int32.ofInt y).toInt
def zor (x y : Int) : Int := (Int32.ofInt x ||| Int32.ofInt y).toInt
def zxor (x y : Int) : Int := (Int32.ofInt x ^^^ Int32.ofInt y).toInt
def zshl (x y : Int) : Int := (Int32.ofInt x <<< (Int32.ofInt y &&& 31)).toInt
def zshr (x y : Int) : Int := (Int32.ofInt x >>> (Int32.ofInt y &&& 31)).toInt
def zushr (x y : Int) : Int := ((Int32.ofInt x).toUInt32 >>> ((Int32.ofInt y).toUInt32 &&& Int32.toUInt32 31)).toInt32.toInt
def zi2b (x : Int) : Int := (Int32.ofInt x).toInt8.toInt32.toInt
theorem EvX.iand {x y : Int} (hd : decode M.2.1 pc = .ok (.iand, 1)) (k : EvX X d M mc ms (pc + 1) ls ((0, zand x y) :: st) kd m Q) : EvX X d M mc ms pc ls ((0, y) :: (0, x) :: st) kd m Q :=
  EvX.go (fun _ h => zoks_cons (zok_i (zin_toInt _)) (zoks_tail (zoks_tail h))) (fun {p l e R s mi args below meth c H locs cells slots Qs lsr E ad} _ _ hF _ hk => lv_iand hF.1 hF.2.1 hd (by
    have hk : W p l e R s mi args below meth c H locs cells slots Qs (F0 mi (pc + 1) lsr (.int (Int32.ofInt (zand x y)) :: zst E ad st)) := hk
    rw [zand, zi_of] at hk; exact hk)) k
theorem EvX.ior {x y : Int} (hd : decode M.2.1 pc = .ok (.ior, 1)) (k : EvX X d M mc ms (pc + 1) ls ((0, zor x y) :: st) kd m Q) : EvX X d M mc ms pc ls ((0, y) :: (0, x) :: st) kd m Q :=
  EvX.go (fun _ h => zoks_cons (zok_i (zin_toInt _)) (zoks_tail (zoks_tail h))) (fun {p l e R s mi args below meth c H locs cells slots Qs lsr E ad} _ _ hF _ hk => lv_ior hF.1 hF.2.1 hd (by
    have hk : W p l e R s mi args below meth c H locs cells slots Qs (F0 mi (pc + 1) lsr (.int (Int32.ofInt (zor x y)) :: zst E ad st)) := hk
    rw [zor, zi_of] at hk; exact hk)) k
theorem EvX.ixor {x y : Int} (hd : decode M.2.1 pc = .ok (.ixor, 1)) (k : EvX X d M mc ms (pc + 1) ls ((0, zxor x y) :: st) kd m Q) : EvX X d M mc ms pc ls ((0, y) :: (0, x) :: st) kd m Q :=
  EvX.go (fun _ h => zoks_cons (zok_i (zin_toInt _)) (zoks_tail (zoks_tail h))) (fun {p l e R s mi args below meth c H locs cells slots Qs lsr E ad} _ _ hF _ hk => lv_ixor hF.1 hF.2.1 hd (by
    have hk : W p l e R s mi args below meth c H locs cells slots Qs (F0 mi (pc + 1) lsr (.int (Int32.ofInt (zxor x y)) :: zst E ad st)) := hk
    rw [zxor, zi_of] at hk; exact hk)) k
theorem EvX.ishl {x y : Int} (hd : decode M.2.1 pc = .ok (.ishl, 1)) (k : EvX X d M mc ms (pc + 1) ls ((0, zshl x y) :: st) kd m Q) : EvX X d M mc ms pc ls ((0, y) :: (0, x) :: st) kd m Q :=
  EvX.go (fun _ h => zoks_cons (zok_i (zin_toInt _)) (zoks_tail (zoks_tail h))) (fun {p l e R s mi args below meth c H locs cells slots Qs lsr E ad} _ _ hF _ hk => lv_ishl hF.1 hF.2.1 hd (by
    have hk : W p l e R s mi args below meth c H locs cells slots Qs (F0 mi (pc + 1) lsr (.int (Int32.ofInt (zshl x y)) :: zst E ad st)) := hk
    rw [zshl, zi_of] at hk; exact hk)) k
theorem EvX.ishr {x y : Int} (hd : decode M.2.1 pc = .ok (.ishr, 1)) (k : EvX X d M mc ms (pc + 1) ls ((0, zshr x y) :: st) kd m Q) : EvX X d M mc ms pc ls ((0, y) :: (0, x) :: st) kd m Q :=
  EvX.go (fun _ h => zoks_cons (zok_i (zin_toInt _)) (zoks_tail (zoks_tail h))) (fun {p l e R s mi args below meth c H locs cells slots Qs lsr E ad} _ _ hF _ hk => lv_ishr hF.1 hF.2.1 hd (by
    have hk : W p l e R s mi args below meth c H locs cells slots Qs (F0 mi (pc + 1) lsr (.int (Int32.ofInt (zshr x y)) :: zst E ad st)) := hk
    rw [zshr, zi_of] at hk; exact hk)) k
theorem EvX.iushr {x y : Int} (hd : decode M.2.1 pc = .ok (.iushr, 1)) (k : EvX X d M mc ms (pc + 1) ls ((0, zushr x y) :: st) kd m Q) : EvX X d M mc ms pc ls ((0, y) :: (0, x) :: st) kd m Q :=
  EvX.go (fun _ h => zoks_cons (zok_i (zin_toInt _)) (zoks_tail (zoks_tail h))) (fun {p l e R s mi args below meth c H locs cells slots Qs lsr E ad} _ _ hF _ hk => lv_iushr hF.1 hF.2.1 hd rfl (by
    have hk : W p l e R s mi args below meth c H locs cells slots Qs (F0 mi (pc + 1) lsr (.int (Int32.ofInt (zushr x y)) :: zst E ad st)) := hk
    rw [zushr, zi_of] at hk; exact hk)) k
theorem EvX.i2b {x : Int} (hd : decode M.2.1 pc = .ok (.i2b, 1)) (k : EvX X d M mc ms (pc + 1) ls ((0, zi2b x) :: st) kd m Q) : EvX X d M mc ms pc ls ((0, x) :: st) kd m Q :=
  EvX.go (fun _ h => zoks_cons (zok_i (zin_toInt _)) (zoks_tail h)) (fun {p l e R s mi args below meth c H locs cells slots Qs lsr E ad} _ _ hF _ hk => lv_i2b hF.1 hF.2.1 hd rfl (by
    have hk : W p l e R s mi args below meth c H locs cells slots Qs (F0 mi (pc + 1) lsr (.int (Int32.ofInt (zi2b x)) :: zst E ad st)) := hk
    rw [zi2b, zi_of] at hk; exact hk)) k
theorem EvX.i2l {x : Int} (hd : decode M.2.1 pc = .ok (.i2l, 1)) (k : EvX X d M mc ms (pc + 1) ls ((1, x) :: st) kd m Q) : EvX X d M mc ms pc ls ((0, x) :: st) kd m Q :=
  EvX.go (fun _ h => zoks_cons (zok_l (by have := zi0 h; simp only [zin32, zin64] at this ⊢; omega)) (zoks_tail h)) (fun {p l e R s mi args below meth c H locs cells slots Qs lsr E ad} _ hs hF _ hk => lv_i2l hF.1 hF.2.1 hd (v := Int64.ofInt x) (by
    apply Int64.toInt_inj.mp
    have h := zi0 hs
    rw [Int32.toInt_toInt64, zi_toInt h, zl_toInt (by simp only [zin32, zin64] at h ⊢; omega)]) hk) k
theorem EvX.l2i {x : Int} (hd : decode M.2.1 pc = .ok (.l2i, 1)) (k : EvX X d M mc ms (pc + 1) ls ((0, iw x) :: st) kd m Q) : EvX X d M mc ms pc ls ((1, x) :: st) kd m Q :=
  EvX.go (fun _ h => zoks_cons (zok_i (zin_iw _)) (zoks_tail h)) (fun {p l e R s mi args below meth c H locs cells slots Qs lsr E ad} _ hs hF _ hk => lv_l2i hF.1 hF.2.1 hd (v := Int32.ofInt (iw x)) (by
    apply Int32.toInt_inj.mp
    have h := zi1 hs
    rw [Int64.toInt_toInt32, zl_toInt h, zi_iw, Int32.toInt_ofInt]) hk) k
theorem EvX.ladd {x y : Int} (hd : decode M.2.1 pc = .ok (.ladd, 1)) (k : EvX X d M mc ms (pc + 1) ls ((1, lw64 (x + y)) :: st) kd m Q) : EvX X d M mc ms pc ls ((1, y) :: (1, x) :: st) kd m Q :=
  EvX.go (fun _ h => zoks_cons (zok_l (zin_lw _)) (zoks_tail (zoks_tail h))) (fun {p l e R s mi args below meth c H locs cells slots Qs lsr E ad} _ _ hF _ hk => lv_ladd hF.1 hF.2.1 hd (by
    have hk : W p l e R s mi args below meth c H locs cells slots Qs (F0 mi (pc + 1) lsr (.long (Int64.ofInt (lw64 (x + y))) :: zst E ad st)) := hk
    rw [zl_lw, Int64.ofInt_add] at hk; exact hk)) k
theorem EvX.lsub {x y : Int} (hd : decode M.2.1 pc = .ok (.lsub, 1)) (k : EvX X d M mc ms (pc + 1) ls ((1, lw64 (x - y)) :: st) kd m Q) : EvX X d M mc ms pc ls ((1, y) :: (1, x) :: st) kd m Q :=
  EvX.go (fun _ h => zoks_cons (zok_l (zin_lw _)) (zoks_tail (zoks_tail h))) (fun {p l e R s mi args below meth c H locs cells slots Qs lsr E ad} _ _ hF _ hk => lv_lsub hF.1 hF.2.1 hd (by
    have hk : W p l e R s mi args below meth c H locs cells slots Qs (F0 mi (pc + 1) lsr (.long (Int64.ofInt (lw64 (x - y))) :: zst E ad st)) := hk
    rw [zl_lw, Int64.ofInt_sub] at hk; exact hk)) k
theorem EvX.lmul {x y : Int} (hd : decode M.2.1 pc = .ok (.lmul, 1)) (k : EvX X d M mc ms (pc + 1) ls ((1, lw64 (x * y)) :: st) kd m Q) : EvX X d M mc ms pc ls ((1, y) :: (1, x) :: st) kd m Q :=
  EvX.go (fun _ h => zoks_cons (zok_l (zin_lw _)) (zoks_tail (zoks_tail h))) (fun {p l e R s mi args below meth c H locs cells slots Qs lsr E ad} _ _ hF _ hk => lv_lmul hF.1 hF.2.1 hd (by
    have hk : W p l e R s mi args below meth c H locs cells slots Qs (F0 mi (pc + 1) lsr (.long (Int64.ofInt (lw64 (x * y))) :: zst E ad st)) := hk
    rw [zl_lw, Int64.ofInt_mul] at hk; exact hk)) k
theorem zin_0l : zin64 0 := ⟨by decide, by decide⟩
theorem zin64_tmod {x y : Int} (hx : zin64 x) : zin64 (x.tmod y) := by
  have g := zabs_tmod x y
  obtain ⟨h1, h2⟩ := hx
  by_cases hx0 : 0 ≤ x
  · have := Int.tmod_nonneg y hx0
    simp only [zin64]; omega
  · have e : x.tmod y = -((-x).tmod y) := by rw [Int.neg_tmod, Int.neg_neg]
    have := Int.tmod_nonneg y (show 0 ≤ -x by omega)
    simp only [zin64]; omega
theorem EvX.ldiv {x y : Int} (hd : decode M.2.1 pc = .ok (.ldiv, 1)) (hy : y ≠ 0) (k : EvX X d M mc ms (pc + 1) ls ((1, lw64 (x.tdiv y)) :: st) kd m Q) : EvX X d M mc ms pc ls ((1, y) :: (1, x) :: st) kd m Q :=
  EvX.go (fun _ h => zoks_cons (zok_l (zin_lw _)) (zoks_tail (zoks_tail h))) (fun {p l e R s mi args below meth c H locs cells slots Qs lsr E ad} _ hs hF _ hk => lv_ldiv hF.1 hF.2.1 hd (fun z => hy ((zl_inj (zi1 hs) zin_0l).mp z)) (by
    have hk : W p l e R s mi args below meth c H locs cells slots Qs (F0 mi (pc + 1) lsr (.long (Int64.ofInt (lw64 (x.tdiv y))) :: zst E ad st)) := hk
    rw [zl_div (zi1 (zoks_tail hs)) (zi1 hs)] at hk; exact hk)) k
theorem EvX.lrem {x y : Int} (hd : decode M.2.1 pc = .ok (.lrem, 1)) (hy : y ≠ 0) (k : EvX X d M mc ms (pc + 1) ls ((1, x.tmod y) :: st) kd m Q) : EvX X d M mc ms pc ls ((1, y) :: (1, x) :: st) kd m Q :=
  EvX.go (fun _ h => zoks_cons (zok_l (zin64_tmod (zi1 (zoks_tail h)))) (zoks_tail (zoks_tail h))) (fun {p l e R s mi args below meth c H locs cells slots Qs lsr E ad} _ hs hF _ hk => lv_lrem hF.1 hF.2.1 hd (fun z => hy ((zl_inj (zi1 hs) zin_0l).mp z)) (by
    have hk : W p l e R s mi args below meth c H locs cells slots Qs (F0 mi (pc + 1) lsr (.long (Int64.ofInt (x.tmod y)) :: zst E ad st)) := hk
    rw [zl_rem (zi1 (zoks_tail hs)) (zi1 hs)] at hk; exact hk)) k
def zcmp (x y : Int) : Int := if y < x then 1 else if x = y then 0 else -1
theorem EvX.lcmp {x y : Int} (hd : decode M.2.1 pc = .ok (.lcmp, 1)) (k : EvX X d M mc ms (pc + 1) ls ((0, zcmp x y) :: st) kd m Q) : EvX X d M mc ms pc ls ((1, y) :: (1, x) :: st) kd m Q :=
  EvX.go (fun _ h => zoks_cons (zok_i (by simp only [zcmp]; split <;> (try split) <;> exact ⟨by decide, by decide⟩)) (zoks_tail (zoks_tail h))) (fun {p l e R s mi args below meth c H locs cells slots Qs lsr E ad} _ hs hF _ hk => W.lcmp hF.1 hF.2.1 hd (by
    have hk : W p l e R s mi args below meth c H locs cells slots Qs (F0 mi (pc + 1) lsr (.int (Int32.ofInt (zcmp x y)) :: zst E ad st)) := hk
    have e1 : lg_cmp (Int64.ofInt x) (Int64.ofInt y) = Int32.ofInt (zcmp x y) := by
      simp only [lg_cmp, zcmp, GT.gt, zl_lt (zi1 hs) (zi1 (zoks_tail hs)), zl_inj (zi1 (zoks_tail hs)) (zi1 hs)]
      split
      · rfl
      · split <;> rfl
    rw [← e1] at hk; exact hk)) k
/-! the stack -/
theorem EvX.dup {v : ZV} (hd : decode M.2.1 pc = .ok (.dup, 1)) (hv : v.1 ≠ 1) (k : EvX X d M mc ms (pc + 1) ls (v :: v :: st) kd m Q) : EvX X d M mc ms pc ls (v :: st) kd m Q :=
  EvX.go (fun _ h => zoks_cons (zoks_head h) h) (fun _ _ hF _ hk => lv_dup hF.1 hF.2.1 hd (zc_cat1 _ _ _ hv) hk) k
theorem EvX.pop {v : ZV} (hd : decode M.2.1 pc = .ok (.pop, 1)) (hv : v.1 ≠ 1) (k : EvX X d M mc ms (pc + 1) ls st kd m Q) : EvX X d M mc ms pc ls (v :: st) kd m Q :=
  EvX.go (fun _ h => zoks_tail h) (fun _ _ hF _ hk => lv_pop hF.1 hF.2.1 hd (zc_cat1 _ _ _ hv) hk) k
theorem EvX.dup2 {v u : ZV} (hd : decode M.2.1 pc = .ok (.dup2, 1)) (hv : v.1 ≠ 1) (hu : u.1 ≠ 1) (k : EvX X d M mc ms (pc + 1) ls (v :: u :: v :: u :: st) kd m Q) : EvX X d M mc ms pc ls (v :: u :: st) kd m Q :=
  EvX.go (fun _ h => zoks_cons (zoks_head h) (zoks_cons (zoks_head (zoks_tail h)) h)) (fun _ _ hF _ hk => lv_dup2_11 hF.1 hF.2.1 hd (zc_cat1 _ _ _ hv) (zc_cat1 _ _ _ hu) hk) k
/-! branches -/
theorem EvX.goto {off : Int} {tgt : Nat} (hd : decode M.2.1 pc = .ok (.goto off, 3)) (ht : (pc : Int) + off = (tgt : Int)) (k : EvX X d M mc ms tgt ls st kd m Q) : EvX X d M mc ms pc ls st kd m Q :=
  EvX.go (fun _ h => h) (fun _ _ hF _ hk => lv_goto hF.1 hF.2.1 hd ht hk) k
theorem EvX.if_eq {x : Int} {off : Int} {tgt : Nat} (hd : decode M.2.1 pc = .ok (.ifCond .eq off, 3)) (ht : (pc : Int) + off = (tgt : Int)) (kt : x = 0 → EvX X d M mc ms tgt ls st kd m Q) (kf : ¬ x = 0 → EvX X d M mc ms (pc + 3) ls st kd m Q) : EvX X d M mc ms pc ls ((0, x) :: st) kd m Q :=
  EvX.br (C := x = 0) (fun h => zoks_tail h) (fun hs hF ht2 hf2 => lv_if_eq hF.1 hF.2.1 hd ht (fun z => ht2 ((zi_inj (zi0 hs) zin_0).mp z)) (fun z => hf2 (fun w => z ((zi_inj (zi0 hs) zin_0).mpr w)))) kt kf
theorem EvX.icmp_eq {x y : Int} {off : Int} {tgt : Nat} (hd : decode M.2.1 pc = .ok (.if_icmp .eq off, 3)) (ht : (pc : Int) + off = (tgt : Int)) (kt : x = y → EvX X d M mc ms tgt ls st kd m Q) (kf : ¬ x = y → EvX X d M mc ms (pc + 3) ls st kd m Q) : EvX X d M mc ms pc ls ((0, y) :: (0, x) :: st) kd m Q :=
  EvX.br (C := x = y) (fun h => zoks_tail (zoks_tail h)) (fun hs hF ht2 hf2 => lv_icmp_eq hF.1 hF.2.1 hd ht (fun z => ht2 ((zi_inj (zi0 (zoks_tail hs)) (zi0 hs)).mp z)) (fun z => hf2 (fun w => z ((zi_inj (zi0 (zoks_tail hs)) (zi0 hs)).mpr w)))) kt kf
theorem EvX.if_ne {x : Int} {off : Int} {tgt : Nat} (hd : decode M.2.1 pc = .ok (.ifCond .ne off, 3)) (ht : (pc : Int) + off = (tgt : Int)) (kt : x ≠ 0 → EvX X d M mc ms tgt ls st kd m Q) (kf : ¬ x ≠ 0 → EvX X d M mc ms (pc + 3) ls st kd m Q) : EvX X d M mc ms pc ls ((0, x) :: st) kd m Q :=
  EvX.br (C := x ≠ 0) (fun h => zoks_tail h) (fun hs hF ht2 hf2 => lv_if_ne hF.1 hF.2.1 hd ht (fun z => ht2 ((not_congr (zi_inj (zi0 hs) zin_0)).mp z)) (fun z => hf2 (fun w => w ((zi_inj (zi0 hs) zin_0).mp z)))) kt kf
theorem EvX.icmp_ne {x y : Int} {off : Int} {tgt : Nat} (hd : decode M.2.1 pc = .ok (.if_icmp .ne off, 3)) (ht : (pc : Int) + off = (tgt : Int)) (kt : x ≠ y → EvX X d M mc ms tgt ls st kd m Q) (kf : ¬ x ≠ y → EvX X d M mc ms (pc + 3) ls st kd m Q) : EvX X d M mc ms pc ls ((0, y) :: (0, x) :: st) kd m Q :=
  EvX.br (C := x ≠ y) (fun h => zoks_tail (zoks_tail h)) (fun hs hF ht2 hf2 => lv_icmp_ne hF.1 hF.2.1 hd ht (fun z => ht2 ((not_congr (zi_inj (zi0 (zoks_tail hs)) (zi0 hs))).mp z)) (fun z => hf2 (fun w => w ((zi_inj (zi0 (zoks_tail hs)) (zi0 hs)).mp z)))) kt kf
theorem EvX.if_lt {x : Int} {off : Int} {tgt : Nat} (hd : decode M.2.1 pc = .ok (.ifCond .lt off, 3)) (ht : (pc : Int) + off = (tgt : Int)) (kt : x < 0 → EvX X d M mc ms tgt ls st kd m Q) (kf : ¬ x < 0 → EvX X d M mc ms (pc + 3) ls st kd m Q) : EvX X d M mc ms pc ls ((0, x) :: st) kd m Q :=
  EvX.br (C := x < 0) (fun h => zoks_tail h) (fun hs hF ht2 hf2 => lv_if_lt hF.1 hF.2.1 hd ht (fun z => ht2 ((zi_lt (zi0 hs) zin_0).mp z)) (fun z => hf2 (fun w => z ((zi_lt (zi0 hs) zin_0).mpr w)))) kt kf
theorem EvX.icmp_lt {x y : Int} {off : Int} {tgt : Nat} (hd : decode M.2.1 pc = .ok (.if_icmp .lt off, 3)) (ht : (pc : Int) + off = (tgt : Int)) (kt : x < y → EvX X d M mc ms tgt ls st kd m Q) (kf : ¬ x < y → EvX X d M mc ms (pc + 3) ls st kd m Q) : EvX X d M mc ms pc ls ((0, y) :: (0, x) :: st) kd m Q :=
  EvX.br (C := x < y) (fun h => zoks_tail (zoks_tail h)) (fun hs hF ht2 hf2 => lv_icmp_lt hF.1 hF.2.1 hd ht (fun z => ht2 ((zi_lt (zi0 (zoks_tail hs)) (zi0 hs)).mp z)) (fun z => hf2 (fun w => z ((zi_lt (zi0 (zoks_tail hs)) (zi0 hs)).mpr w)))) kt kf
theorem EvX.if_ge {x : Int} {off : Int} {tgt : Nat} (hd : decode M.2.1 pc = .ok (.ifCond .ge off, 3)) (ht : (pc : Int) + off = (tgt : Int)) (kt : 0 ≤ x → EvX X d M mc ms tgt ls st kd m Q) (kf : ¬ 0 ≤ x → EvX X d M mc ms (pc + 3) ls st kd m Q) : EvX X d M mc ms pc ls ((0, x) :: st) kd m Q :=
  EvX.br (C := 0 ≤ x) (fun h => zoks_tail h) (fun hs hF ht2 hf2 => lv_if_ge hF.1 hF.2.1 hd ht (fun z => ht2 ((zi_le zin_0 (zi0 hs)).mp z)) (fun z => hf2 (fun w => z ((zi_le zin_0 (zi0 hs)).mpr w)))) kt kf
theorem EvX.icmp_ge {x y : Int} {off : Int} {tgt : Nat} (hd : decode M.2.1 pc = .ok (.if_icmp .ge off, 3)) (ht : (pc : Int) + off = (tgt : Int)) (kt : y ≤ x → EvX X d M mc ms tgt ls st kd m Q) (kf : ¬ y ≤ x → EvX X d M mc ms (pc + 3) ls st kd m Q) : EvX X d M mc ms pc ls ((0, y) :: (0, x) :: st) kd m Q :=
  EvX.br (C := y ≤ x) (fun h => zoks_tail (zoks_tail h)) (fun hs hF ht2 hf2 => lv_icmp_ge hF.1 hF.2.1 hd ht (fun z => ht2 ((zi_le (zi0 hs) (zi0 (zoks_tail hs))).mp z)) (fun z => hf2 (fun w => z ((zi_le (zi0 hs) (zi0 (zoks_tail hs))).mpr w)))) kt kf
theorem EvX.if_gt {x : Int} {off : Int} {tgt : Nat} (hd : decode M.2.1 pc = .ok (.ifCond .gt off, 3)) (ht : (pc : Int) + off = (tgt : Int)) (kt : 0 < x → EvX X d M mc ms tgt ls st kd m Q) (kf : ¬ 0 < x → EvX X d M mc ms (pc + 3) ls st kd m Q) : EvX X d M mc ms pc ls ((0, x) :: st) kd m Q :=
  EvX.br (C := 0 < x) (fun h => zoks_tail h) (fun hs hF ht2 hf2 => lv_if_gt hF.1 hF.2.1 hd ht (fun z => ht2 ((zi_lt zin_0 (zi0 hs)).mp z)) (fun z => hf2 (fun w => z ((zi_lt zin_0 (zi0 hs)).mpr w)))) kt kf
theorem EvX.icmp_gt {x y : Int} {off : Int} {tgt : Nat} (hd : decode M.2.1 pc = .ok (.if_icmp .gt off, 3)) (ht : (pc : Int) + off = (tgt : Int)) (kt : y < x → EvX X d M mc ms tgt ls st kd m Q) (kf : ¬ y < x → EvX X d M mc ms (pc + 3) ls st kd m Q) : EvX X d M mc ms pc ls ((0, y) :: (0, x) :: st) kd m Q :=
  EvX.br (C := y < x) (fun h => zoks_tail (zoks_tail h)) (fun hs hF ht2 hf2 => lv_icmp_gt hF.1 hF.2.1 hd ht (fun z => ht2 ((zi_lt (zi0 hs) (zi0 (zoks_tail hs))).mp z)) (fun z => hf2 (fun w => z ((zi_lt (zi0 hs) (zi0 (zoks_tail hs))).mpr w)))) kt kf
theorem EvX.if_le {x : Int} {off : Int} {tgt : Nat} (hd : decode M.2.1 pc = .ok (.ifCond .le off, 3)) (ht : (pc : Int) + off = (tgt : Int)) (kt : x ≤ 0 → EvX X d M mc ms tgt ls st kd m Q) (kf : ¬ x ≤ 0 → EvX X d M mc ms (pc + 3) ls st kd m Q) : EvX X d M mc ms pc ls ((0, x) :: st) kd m Q :=
  EvX.br (C := x ≤ 0) (fun h => zoks_tail h) (fun hs hF ht2 hf2 => lv_if_le hF.1 hF.2.1 hd ht (fun z => ht2 ((zi_le (zi0 hs) zin_0).mp z)) (fun z => hf2 (fun w => z ((zi_le (zi0 hs) zin_0).mpr w)))) kt kf
theorem EvX.icmp_le {x y : Int} {off : Int} {tgt : Nat} (hd : decode M.2.1 pc = .ok (.if_icmp .le off, 3)) (ht : (pc : Int) + off = (tgt : Int)) (kt : x ≤ y → EvX X d M mc ms tgt ls st kd m Q) (kf : ¬ x ≤ y → EvX X d M mc ms (pc + 3) ls st kd m Q) : EvX X d M mc ms pc ls ((0, y) :: (0, x) :: st) kd m Q :=
  EvX.br (C := x ≤ y) (fun h => zoks_tail (zoks_tail h)) (fun hs hF ht2 hf2 => lv_icmp_le hF.1 hF.2.1 hd ht (fun z => ht2 ((zi_le (zi0 (zoks_tail hs)) (zi0 hs)).mp z)) (fun z => hf2 (fun w => z ((zi_le (zi0 (zoks_tail hs)) (zi0 hs)).mpr w)))) kt kf
/-- the values on the locals may be forgotten -/
theorem EvX.weak {ls2 : List ZV} (h : ∀ (i : Nat) (v : ZV), ls2[i]? = some v → v.1 = 9 ∨ ls[i]? = some v) (k : EvX X d M mc ms pc ls2 st kd m Q) : EvX X d M mc ms pc ls st kd m Q := by
  intro hm hl hs E p l e R s mi args below meth c H locs cells slots D A ad ca tys lsr Qs hF hR hX hZ hS hA hE hL hQ
  refine k hm (fun v hv => ?_) hs E p l e R s mi args below meth c H locs cells slots D A ad ca tys lsr Qs hF hR hX hZ hS hA hE ⟨hL.1, hL.2.1, fun i v hi h9 => ?_⟩ hQ
  · obtain ⟨i, hi⟩ := List.getElem?_of_mem hv
    rcases h i v hi with q | q
    · obtain ⟨t, x⟩ := v
      dsimp only at q
      subst q
      exact ⟨fun z => (by cases z), fun z => (by cases z), fun z => (by cases z)⟩
    · exact zok_at hl q
  · rcases h i v hi with q | q
    · exact absurd q h9
    · exact hL.2.2 i v q h9
end EVR
