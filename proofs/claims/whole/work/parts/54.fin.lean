/-! GAME: a question dropped, one added: what stands behind it -/
theorem GS.size {kd : ZK} {m : ZM} {g i v : Int} (h : GS kd m g) (hi : i < 4) : GS kd (zup m g i v) g := by
  unfold GS
  rw [zup_at, gup_off (by omega), gup_off (by omega), gup_off (by omega)]
  exact h
def dsk (q j x : Int) : Int := if q ≤ x ∧ x < j then x + 1 else x
def DRI (m : ZM) (g p q NN NQ NA NB j : Int) (mm : ZM) : Prop := (∀ c, (c < g ∨ g + 3 < c) → mm c = m c) ∧ mm g = m g ∧
  (∀ x y, 0 ≤ x → x < NN → 0 ≤ y → y < NQ → mm (g + 1) (zC p x y) = m (g + 1) (zC p (dsk q j x) y)) ∧
  (∀ x y a b, 0 ≤ x → x < NN → 0 ≤ y → y < NQ → 0 ≤ a → a < NA → 0 ≤ b → b < NB → mm (g + 2) (zS p x y a b) = m (g + 2) (zS p (dsk q j x) y a b) ∧ mm (g + 3) (zS p x y a b) = m (g + 3) (zS p (dsk q j x) y a b))
theorem DRI_0 {m : ZM} {g p q NN NQ NA NB : Int} : DRI m g p q NN NQ NA NB q m := by
  have e : ∀ x, dsk q q x = x := fun x => if_neg (by omega)
  exact ⟨fun _ _ => rfl, rfl, fun x y _ _ _ _ => by rw [e], fun x y a b _ _ _ _ _ _ _ _ => by rw [e]; exact ⟨rfl, rfl⟩⟩
theorem DRI_1 {m mm m2 : ZM} {g p q NN NQ NA NB j : Int} (hn : NN ≤ 5) (hj : 0 ≤ q ∧ q ≤ j ∧ j + 1 < NN) (k : DRI m g p q NN NQ NA NB j mm) (c : COI mm g p (j + 1) j NQ NA NB NQ 0 0 NQ m2) : DRI m g p q NN NQ NA NB (j + 1) m2 := by
  have e1 : dsk q j (j + 1) = j + 1 := if_neg (by omega)
  have e2 : dsk q (j + 1) j = j + 1 := if_pos (by omega)
  have e3 : ∀ x, x ≠ j → dsk q (j + 1) x = dsk q j x := fun x hx => by unfold dsk; split <;> split <;> omega
  refine ⟨fun b hb => by rw [c.1 b hb, k.1 b hb], by rw [c.2.1, k.2.1], fun x y h1 h2 h3 h4 => ?_, fun x y a b h1 h2 h3 h4 h5 h6 h7 h8 => ?_⟩
  · have r := c.2.2.1 x y h1 (by omega) h3 h4
    rcases Classical.em (x = j) with z | z
    · subst z
      rw [r.1 ⟨rfl, h4⟩, k.2.2.1 (x + 1) y (by omega) (by omega) h3 h4, e1, e2]
    · rw [r.2 (fun w => z w.1), k.2.2.1 x y h1 h2 h3 h4, e3 x z]
  · have r := c.2.2.2 x y a b h1 (by omega) h3 h4 h5 h6 h7 h8
    rcases Classical.em (x = j) with z | z
    · subst z
      have r1 := r.1 ⟨rfl, Or.inl h4⟩
      have r2 := k.2.2.2 (x + 1) y a b (by omega) (by omega) h3 h4 h5 h6 h7 h8
      rw [r1.1, r1.2, r2.1, r2.2, e1, e2]
      exact ⟨rfl, rfl⟩
    · have r1 := r.2 (fun w => z w.1)
      have r2 := k.2.2.2 x y a b h1 h2 h3 h4 h5 h6 h7 h8
      rw [r1.1, r1.2, r2.1, r2.2, e3 x z]
      exact ⟨rfl, rfl⟩
theorem drop_fin {kd : ZK} {m mm : ZM} {g p q : Int} {G : GR} (hg : CG kd m g G) (ho : GOK G) (hp : p = 0 ∨ p = 1) (hq : 0 ≤ q ∧ q < nQ G p) (k : DRI m g p q (nQ G p) (nQ G (1 - p)) (nA G p) (nA G (1 - p)) (nQ G p - 1) mm) : CG kd (zup mm g (if p = 0 then 0 else 1) (nQ G p - 1)) g (opDrop G p q) ∧ ∀ c, (c < g ∨ g + 3 < c) → (zup mm g (if p = 0 then 0 else 1) (nQ G p - 1)) c = m c := by
  have h0 := ho.1
  have hz := hg.2.1
  refine ⟨?_, fun c hc => by rw [zup_off (by omega)]; exact k.1 c hc⟩
  have hgs : GS kd mm g := hg.1.frame k.2.1
  have ew : ∀ i v, (zup mm g i v) (g + 1) = mm (g + 1) := fun i v => zup_off (by omega)
  have ev : ∀ i v, (zup mm g i v) (g + 2) = mm (g + 2) := fun i v => zup_off (by omega)
  have eb : ∀ i v, (zup mm g i v) (g + 3) = mm (g + 3) := fun i v => zup_off (by omega)
  rcases hp with e | e <;> subst e
  · have n0 : nQ G 0 = G 0 := rfl
    have n1 : nQ G (1 - 0) = G 1 := rfl
    have n2 : nA G 0 = G 2 := rfl
    have n3 : nA G (1 - 0) = G 3 := rfl
    rw [n0, n1, n2, n3] at k
    rw [n0] at hq
    rw [if_pos rfl, n0, opDrop, if_pos rfl]
    have ed : ∀ x, x < G 0 - 1 → dsk q (G 0 - 1) x = zsk q x := fun x hx => by unfold dsk zsk; split <;> split <;> omega
    have ez : ∀ x, 0 ≤ x → x < G 0 - 1 → 0 ≤ zsk q x ∧ zsk q x < G 0 := fun x h1 h2 => by unfold zsk; split <;> omega
    refine CG_mk (hgs.size (by omega)) (by omega) (by omega) (by omega) (by omega) ?_ (fun x y h1 h2 h3 h4 => ?_) (fun x y a b h1 h2 h3 h4 h5 h6 h7 h8 => ?_)
    · rw [zup_at, gup_at, gup_off (by omega), gup_off (by omega), gup_off (by omega), k.2.1]
      omega
    · rw [ew, k.2.2.1 x y h1 (by omega) h3 h4, ed x h2]
      exact hg.2.2.1 _ y (ez x h1 h2).1 (ez x h1 h2).2 h3 h4
    · have r := k.2.2.2 x y a b h1 (by omega) h3 h4 h5 h6 h7 h8
      rw [ev, eb, r.1, r.2, ed x h2]
      exact hg.2.2.2 _ y a b (ez x h1 h2).1 (ez x h1 h2).2 h3 h4 h5 h6 h7 h8
  · have n0 : nQ G 1 = G 1 := rfl
    have n1 : nQ G (1 - 1) = G 0 := rfl
    have n2 : nA G 1 = G 3 := rfl
    have n3 : nA G (1 - 1) = G 2 := rfl
    rw [n0, n1, n2, n3] at k
    rw [n0] at hq
    rw [if_neg (by decide), n0, opDrop, if_neg (by decide)]
    have ed : ∀ x, x < G 1 - 1 → dsk q (G 1 - 1) x = zsk q x := fun x hx => by unfold dsk zsk; split <;> split <;> omega
    have ez : ∀ x, 0 ≤ x → x < G 1 - 1 → 0 ≤ zsk q x ∧ zsk q x < G 1 := fun x h1 h2 => by unfold zsk; split <;> omega
    refine CG_mk (hgs.size (by omega)) (by omega) (by omega) (by omega) (by omega) ?_ (fun x y h1 h2 h3 h4 => ?_) (fun x y a b h1 h2 h3 h4 h5 h6 h7 h8 => ?_)
    · rw [zup_at, gup_at, gup_off (by omega), gup_off (by omega), gup_off (by omega), k.2.1]
      omega
    · rw [ew]
      have r := k.2.2.1 y x h3 (by omega) h1 h2
      rw [ed y h4] at r
      exact r.trans (hg.2.2.1 x _ h1 h2 (ez y h3 h4).1 (ez y h3 h4).2)
    · have r := k.2.2.2 y x b a h3 (by omega) h1 h2 h7 h8 h5 h6
      rw [ed y h4] at r
      have s := hg.2.2.2 x _ a b h1 h2 (ez y h3 h4).1 (ez y h3 h4).2 h5 h6 h7 h8
      rw [ev, eb]
      exact ⟨r.1.trans s.1, r.2.trans s.2⟩
theorem add_fin {kd : ZK} {m mm : ZM} {g p q : Int} {G : GR} (hg : CG kd m g G) (ho : GOK G) (hp : p = 0 ∨ p = 1) (hq : 0 ≤ q ∧ q < nQ G p) (h5 : nQ G p < 5) (k : COI m g p q (nQ G p) (nQ G (1 - p)) (nA G p) (nA G (1 - p)) (nQ G (1 - p)) 0 0 (nQ G (1 - p)) mm) : CG kd (zup mm g (if p = 0 then 0 else 1) (nQ G p + 1)) g (opCopy G p q) ∧ ∀ c, (c < g ∨ g + 3 < c) → (zup mm g (if p = 0 then 0 else 1) (nQ G p + 1)) c = m c := by
  have h0 := ho.1
  have hz := hg.2.1
  refine ⟨?_, fun c hc => by rw [zup_off (by omega)]; exact k.1 c hc⟩
  have hgs : GS kd mm g := hg.1.frame k.2.1
  have ew : ∀ i v, (zup mm g i v) (g + 1) = mm (g + 1) := fun i v => zup_off (by omega)
  have ev : ∀ i v, (zup mm g i v) (g + 2) = mm (g + 2) := fun i v => zup_off (by omega)
  have eb : ∀ i v, (zup mm g i v) (g + 3) = mm (g + 3) := fun i v => zup_off (by omega)
  rcases hp with e | e <;> subst e
  · have n0 : nQ G 0 = G 0 := rfl
    have n1 : nQ G (1 - 0) = G 1 := rfl
    have n2 : nA G 0 = G 2 := rfl
    have n3 : nA G (1 - 0) = G 3 := rfl
    rw [n0, n1, n2, n3] at k
    rw [n0] at hq h5
    rw [if_pos rfl, n0, opCopy, if_pos rfl]
    refine CG_mk (hgs.size (by omega)) (by omega) (by omega) (by omega) (by omega) ?_ (fun x y h1 h2 h3 h4 => ?_) (fun x y a b h1 h2 h3 h4 h5 h6 h7 h8 => ?_)
    · rw [zup_at, gup_at, gup_off (by omega), gup_off (by omega), gup_off (by omega), k.2.1]
      omega
    · have r := k.2.2.1 x y h1 (by omega) h3 h4
      rw [ew, zlk]
      rcases Classical.em (x = G 0) with z | z
      · rw [if_pos z, r.1 ⟨z, h4⟩]; exact hg.2.2.1 q y hq.1 hq.2 h3 h4
      · rw [if_neg z, r.2 (fun w => z w.1)]; exact hg.2.2.1 x y h1 (by omega) h3 h4
    · have r := k.2.2.2 x y a b h1 (by omega) h3 h4 h5 h6 h7 h8
      rw [ev, eb, zlk]
      rcases Classical.em (x = G 0) with z | z
      · have r1 := r.1 ⟨z, Or.inl h4⟩
        rw [if_pos z, r1.1, r1.2]; exact hg.2.2.2 q y a b hq.1 hq.2 h3 h4 h5 h6 h7 h8
      · have r1 := r.2 (fun w => z w.1)
        rw [if_neg z, r1.1, r1.2]; exact hg.2.2.2 x y a b h1 (by omega) h3 h4 h5 h6 h7 h8
  · have n0 : nQ G 1 = G 1 := rfl
    have n1 : nQ G (1 - 1) = G 0 := rfl
    have n2 : nA G 1 = G 3 := rfl
    have n3 : nA G (1 - 1) = G 2 := rfl
    rw [n0, n1, n2, n3] at k
    rw [n0] at hq h5
    rw [if_neg (by decide), n0, opCopy, if_neg (by decide)]
    refine CG_mk (hgs.size (by omega)) (by omega) (by omega) (by omega) (by omega) ?_ (fun x y h1 h2 h3 h4 => ?_) (fun x y a b h1 h2 h3 h4 h5 h6 h7 h8 => ?_)
    · rw [zup_at, gup_at, gup_off (by omega), gup_off (by omega), gup_off (by omega), k.2.1]
      omega
    · have r := k.2.2.1 y x h3 (by omega) h1 h2
      rw [ew, zlk]
      rcases Classical.em (y = G 1) with z | z
      · rw [if_pos z]; exact (r.1 ⟨z, h2⟩).trans (hg.2.2.1 x q h1 h2 hq.1 hq.2)
      · rw [if_neg z]; exact (r.2 (fun w => z w.1)).trans (hg.2.2.1 x y h1 h2 h3 (by omega))
    · have r := k.2.2.2 y x b a h3 (by omega) h1 h2 h7 h8 h5 h6
      rw [ev, eb, zlk]
      rcases Classical.em (y = G 1) with z | z
      · have r1 := r.1 ⟨z, Or.inl h2⟩
        have s := hg.2.2.2 x q a b h1 h2 hq.1 hq.2 h5 h6 h7 h8
        rw [if_pos z]; exact ⟨r1.1.trans s.1, r1.2.trans s.2⟩
      · have r1 := r.2 (fun w => z w.1)
        have s := hg.2.2.2 x y a b h1 h2 h3 (by omega) h5 h6 h7 h8
        rw [if_neg z]; exact ⟨r1.1.trans s.1, r1.2.trans s.2⟩
