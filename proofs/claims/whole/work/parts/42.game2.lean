/-! GAME, second: signs, squares, boxes, same, lesser -/
def sB (G : GR) (p q a o : Int) : Int := zsum (nA G (1 - p)).toNat fun b => pB G p q o a b
theorem sB_in {G : GR} (ho : GOK G) (p q a o : Int) : 0 ≤ sB G p q a o ∧ sB G p q a o ≤ 48 := by
  have h := zsum_le (C := 12) (f := fun b => pB G p q o a b) (by decide) (fun b => ho.B p q o a b) (nA G (1 - p)).toNat
  have := ho.a (1 - p)
  unfold sB
  omega
theorem c_Game_howOften {d : Nat} {kd : ZK} {m : ZM} {g : Int} {G : GR} {p q a o : Int} (hg : CG kd m g G) (ho : GOK G) (hp : p = 0 ∨ p = 1) (hx : 0 ≤ q ∧ q < nQ G p) (hy : 0 ≤ o ∧ o < nQ G (1 - p)) (ha : 0 ≤ a ∧ a < nA G p) : CtI (d + 3) M_Game_howOften [(2, g), (0, p), (0, q), (0, a), (0, o)] kd m (qE m (sB G p q a o)) := by
  have q1 := ho.q p
  have q2 := ho.q (1 - p)
  have q3 := ho.a p
  have q4 := ho.a (1 - p)
  have ep : iw (1 - p) = 1 - p := iw_s (by omega) (by omega)
  have L0 := zfor1 (nA G (1 - p)) (fun (b : Int) (t : Int) => Ev (d + 3) M_Game_howOften 0 0 6 [(2, g), (0, p), (0, q), (0, a), (0, o), (0, t), (0, b)] [] kd m (zqI kd (qE m (sB G p q a o)))) (fun (b : Int) (t : Int) => 0 ≤ b ∧ t = zsum b.toNat (fun b => pB G p q o a b)) (by
    intro b t hb hI0 KL0
    obtain ⟨hb0, ht⟩ := hI0
    have hs := zsum_le (C := 12) (f := fun b => pB G p q o a b) (by decide) (fun b => ho.B p q o a b) b.toNat
    have hw := ho.B p q o a b
    refine T_Game_howOften_6 ?_
    simp only [ep]
    refine ⟨hg.1.1, _, c_Game_answersOf hg, ?_⟩
    rintro _ _ ⟨rfl, rfl⟩
    refine ⟨fun c1 => ?_, fun c1 => ?_⟩
    · try simp only [zb_eq0, zb_ne0] at c1
      exact ⟨by rw [ht, show b = nA G (1 - p) by omega]; rfl, rfl⟩
    · try simp only [zb_eq0, zb_ne0] at c1
      refine ⟨hg.1.1, ?_⟩
      refine ⟨_, c_Ap_spotOf (by omega) (by omega) (by omega) (by omega), ?_⟩
      rintro _ _ ⟨rfl, rfl⟩
      refine ⟨hg.1.inB (zS_in (by omega) (by omega) (by omega) (by omega)), ?_⟩
      rw [iw_s (x := b + 1) (by omega) (by omega), (hg.VB hp hx hy ha ⟨by omega, by omega⟩).2, iw_s (by omega) (by omega)]
      refine KL0 _ (by omega) ⟨by omega, ?_⟩
      rw [zsum_1 hb0]; omega)
  refine S_Game_howOften ?_
  exact L0 0 0 (by omega) ⟨by omega, by rw [zsum_0]⟩
/-- at a and b it wins just if they are even together -/
def eM (G : GR) (x y a b : Int) : Prop := gV G x y a b = 1 ↔ (a + b) % 2 = 0
def isPar (G : GR) (x y s : Int) : Prop := zal (G 2) fun a => zal (G 3) fun b => (gV G x y a b = 1 ↔ (a + b) % 2 = s)
noncomputable def gS (G : GR) (x y : Int) : Int := zite (isPar G x y 0) 1 (zite (isPar G x y 1) (-1) 0)
theorem gS_in {G : GR} (x y : Int) : -1 ≤ gS G x y ∧ gS G x y ≤ 1 := by
  unfold gS
  rcases Classical.em (isPar G x y 0) with h | h
  · rw [zite_t h]; decide
  · rw [zite_f h]
    rcases Classical.em (isPar G x y 1) with h | h
    · rw [zite_t h]; decide
    · rw [zite_f h]; decide
theorem isPar0 {G : GR} {x y : Int} : isPar G x y 0 ↔ zal (G 2) fun a => zal (G 3) fun b => eM G x y a b := Iff.rfl
theorem isPar1 {G : GR} {x y : Int} : isPar G x y 1 ↔ zal (G 2) fun a => zal (G 3) fun b => ¬ eM G x y a b := by
  unfold isPar eM
  constructor <;> intro h a h1 h2 b h3 h4
  · have := h a h1 h2 b h3 h4
    simp only [] at this ⊢
    omega
  · have := h a h1 h2 b h3 h4
    simp only [] at this ⊢
    omega
theorem tmod2 {x : Int} (h : 0 ≤ x) : Int.tmod x 2 = x % 2 := Int.tmod_eq_emod_of_nonneg h
theorem c_Game_signAt {d : Nat} {kd : ZK} {m : ZM} {g : Int} {G : GR} {x y : Int} (hg : CG kd m g G) (ho : GOK G) (hx : 0 ≤ x ∧ x < G 0) (hy : 0 ≤ y ∧ y < G 1) : CtI (d + 3) M_Game_signAt [(2, g), (0, x), (0, y)] kd m (qE m (gS G x y)) := by
  have e0 := hg.2.1
  have h0 := ho.1
  have sg0 : zal (G 2) (fun a => zal (G 3) fun b => eM G x y a b) → 1 = gS G x y := fun h => (zite_t (isPar0.2 h)).symm
  have sg1 : 1 ≤ G 2 → 1 ≤ G 3 → zal (G 2) (fun a => zal (G 3) fun b => ¬ eM G x y a b) → -1 = gS G x y := fun g1 g2 h => by
    unfold gS
    rw [zite_f (fun h2 => h 0 (by omega) (by omega) 0 (by omega) (by omega) (isPar0.1 h2 0 (by omega) (by omega) 0 (by omega) (by omega))), zite_t (isPar1.2 h)]
  have sg2 : ¬ zal (G 2) (fun a => zal (G 3) fun b => eM G x y a b) → ¬ zal (G 2) (fun a => zal (G 3) fun b => ¬ eM G x y a b) → 0 = gS G x y := fun h1 h2 => by
    unfold gS
    rw [zite_f (fun h => h1 (isPar0.1 h)), zite_f (fun h => h2 (isPar1.1 h))]
  have L0 := zfor2 (G 2) (fun (a : Int) (e : Int) (o : Int) => Ev (d + 3) M_Game_signAt 0 0 8 [(2, g), (0, x), (0, y), (0, e), (0, o), (0, a), zJ, zJ] [] kd m (zqI kd (qE m (gS G x y)))) (fun (a : Int) (e : Int) (o : Int) => 0 ≤ a ∧ 0 ≤ e ∧ 0 ≤ o ∧ e + o ≤ 4 * a ∧ (e = 0 ↔ zal a fun a => zal (G 3) fun b => ¬ eM G x y a b) ∧ (o = 0 ↔ zal a fun a => zal (G 3) fun b => eM G x y a b)) (by
    intro a e o hb hI0 KL0
    obtain ⟨ha0, he0, ho0, heo, he, hoI⟩ := hI0
    have L1 := zfor2 (G 3) (fun (b : Int) (e : Int) (o : Int) => Ev (d + 3) M_Game_signAt 0 0 20 [(2, g), (0, x), (0, y), (0, e), (0, o), (0, a), (0, b), zJ] [] kd m (zqI kd (qE m (gS G x y)))) (fun (b : Int) (e : Int) (o : Int) => 0 ≤ b ∧ a < G 2 ∧ 0 ≤ e ∧ 0 ≤ o ∧ e + o ≤ 4 * a + b ∧ (e = 0 ↔ (zal a fun a => zal (G 3) fun b => ¬ eM G x y a b) ∧ zal b fun b => ¬ eM G x y a b) ∧ (o = 0 ↔ (zal a fun a => zal (G 3) fun b => eM G x y a b) ∧ zal b fun b => eM G x y a b)) (by
      intro b e o hb hI1 KL1
      obtain ⟨hb0, hxlt, he0, ho0, heo, hee, hoo⟩ := hI1
      refine T_Game_signAt_20 ?_
      refine ⟨hg.1.1, ?_⟩
      refine ⟨fun c1 => ?_, fun c1 => ?_⟩
      · skip
        have eb : b = G 3 := by omega
        rw [iw_s (x := a + 1) (by omega) (by omega)]
        refine KL0 _ _ (by omega) ⟨by omega, by omega, by omega, by omega, ?_, ?_⟩
        · rw [zal_s ha0, hee, eb]
        · rw [zal_s ha0, hoo, eb]
      · skip
        refine ⟨hg.1.1, ?_⟩
        refine ⟨_, c_Ap_spotOf (by omega) (by omega) (by omega) (by omega), ?_⟩
        rintro _ _ ⟨rfl, rfl⟩
        refine ⟨hg.1.inV (zS_in (by omega) (by omega) (by omega) (by omega)), ?_⟩
        refine ⟨fun c2 => ?_, fun c2 => ?_⟩
        · try simp only [zb_eq0, zb_ne0] at c2
          have key : ∀ z : Int, (z = 1 ∨ z = 0) → (z = 1 ↔ gV G x y a b = 1) → Ev (d + 3) M_Game_signAt 0 0 53 [(2, g), (0, x), (0, y), (0, e), (0, o), (0, a), (0, b), zJ] [(0, z)] kd m (zqI kd (qE m (gS G x y))) := by
            intro z hz hzv
            refine T_Game_signAt_53 ?_
            rw [iw_s (x := a + b) (by omega) (by omega), tmod2 (by omega)]
            refine ⟨fun c1 => ?_, fun c1 => ?_⟩
            · skip
              refine ⟨fun c2 => ?_, fun c2 => ?_⟩
              · skip
                have HM : ¬ eM G x y a b := by unfold eM; omega
                rw [iw_s (x := b + 1) (by omega) (by omega), iw_s (x := o + 1) (by omega) (by omega)]
                refine KL1 _ _ (by omega) ⟨by omega, by omega, by omega, by omega, by omega, ⟨fun h => ⟨(hee.1 h).1, zal_1 (hee.1 h).2 HM⟩, fun h => hee.2 ⟨h.1, fun i h1 h2 => h.2 i h1 (by omega)⟩⟩, ⟨fun h => absurd h (by omega), fun h => absurd (h.2 b hb0 (by omega)) HM⟩⟩
              · skip
                have HM : eM G x y a b := by unfold eM; omega
                rw [iw_s (x := b + 1) (by omega) (by omega), iw_s (x := e + 1) (by omega) (by omega)]
                refine KL1 _ _ (by omega) ⟨by omega, by omega, by omega, by omega, by omega, ⟨fun h => absurd h (by omega), fun h => absurd HM (h.2 b hb0 (by omega))⟩, ⟨fun h => ⟨(hoo.1 h).1, zal_1 (hoo.1 h).2 HM⟩, fun h => hoo.2 ⟨h.1, fun i h1 h2 => h.2 i h1 (by omega)⟩⟩⟩
            · skip
              refine ⟨fun c3 => ?_, fun c3 => ?_⟩
              · skip
                have HM : ¬ eM G x y a b := by unfold eM; omega
                rw [iw_s (x := b + 1) (by omega) (by omega), iw_s (x := o + 1) (by omega) (by omega)]
                refine KL1 _ _ (by omega) ⟨by omega, by omega, by omega, by omega, by omega, ⟨fun h => ⟨(hee.1 h).1, zal_1 (hee.1 h).2 HM⟩, fun h => hee.2 ⟨h.1, fun i h1 h2 => h.2 i h1 (by omega)⟩⟩, ⟨fun h => absurd h (by omega), fun h => absurd (h.2 b hb0 (by omega)) HM⟩⟩
              · skip
                have HM : eM G x y a b := by unfold eM; omega
                rw [iw_s (x := b + 1) (by omega) (by omega), iw_s (x := e + 1) (by omega) (by omega)]
                refine KL1 _ _ (by omega) ⟨by omega, by omega, by omega, by omega, by omega, ⟨fun h => absurd h (by omega), fun h => absurd HM (h.2 b hb0 (by omega))⟩, ⟨fun h => ⟨(hoo.1 h).1, zal_1 (hoo.1 h).2 HM⟩, fun h => hoo.2 ⟨h.1, fun i h1 h2 => h.2 i h1 (by omega)⟩⟩⟩
          have hV := hg.V0 (x := x) (y := y) (a := a) (b := b) ⟨by omega, by omega⟩ ⟨by omega, by omega⟩ ⟨by omega, by omega⟩ ⟨by omega, by omega⟩
          exact key _ (by omega) (by omega)
        · try simp only [zb_eq0, zb_ne0] at c2
          have key : ∀ z : Int, (z = 1 ∨ z = 0) → (z = 1 ↔ gV G x y a b = 1) → Ev (d + 3) M_Game_signAt 0 0 53 [(2, g), (0, x), (0, y), (0, e), (0, o), (0, a), (0, b), zJ] [(0, z)] kd m (zqI kd (qE m (gS G x y))) := by
            intro z hz hzv
            refine T_Game_signAt_53 ?_
            rw [iw_s (x := a + b) (by omega) (by omega), tmod2 (by omega)]
            refine ⟨fun c1 => ?_, fun c1 => ?_⟩
            · skip
              refine ⟨fun c2 => ?_, fun c2 => ?_⟩
              · skip
                have HM : ¬ eM G x y a b := by unfold eM; omega
                rw [iw_s (x := b + 1) (by omega) (by omega), iw_s (x := o + 1) (by omega) (by omega)]
                refine KL1 _ _ (by omega) ⟨by omega, by omega, by omega, by omega, by omega, ⟨fun h => ⟨(hee.1 h).1, zal_1 (hee.1 h).2 HM⟩, fun h => hee.2 ⟨h.1, fun i h1 h2 => h.2 i h1 (by omega)⟩⟩, ⟨fun h => absurd h (by omega), fun h => absurd (h.2 b hb0 (by omega)) HM⟩⟩
              · skip
                have HM : eM G x y a b := by unfold eM; omega
                rw [iw_s (x := b + 1) (by omega) (by omega), iw_s (x := e + 1) (by omega) (by omega)]
                refine KL1 _ _ (by omega) ⟨by omega, by omega, by omega, by omega, by omega, ⟨fun h => absurd h (by omega), fun h => absurd HM (h.2 b hb0 (by omega))⟩, ⟨fun h => ⟨(hoo.1 h).1, zal_1 (hoo.1 h).2 HM⟩, fun h => hoo.2 ⟨h.1, fun i h1 h2 => h.2 i h1 (by omega)⟩⟩⟩
            · skip
              refine ⟨fun c3 => ?_, fun c3 => ?_⟩
              · skip
                have HM : ¬ eM G x y a b := by unfold eM; omega
                rw [iw_s (x := b + 1) (by omega) (by omega), iw_s (x := o + 1) (by omega) (by omega)]
                refine KL1 _ _ (by omega) ⟨by omega, by omega, by omega, by omega, by omega, ⟨fun h => ⟨(hee.1 h).1, zal_1 (hee.1 h).2 HM⟩, fun h => hee.2 ⟨h.1, fun i h1 h2 => h.2 i h1 (by omega)⟩⟩, ⟨fun h => absurd h (by omega), fun h => absurd (h.2 b hb0 (by omega)) HM⟩⟩
              · skip
                have HM : eM G x y a b := by unfold eM; omega
                rw [iw_s (x := b + 1) (by omega) (by omega), iw_s (x := e + 1) (by omega) (by omega)]
                refine KL1 _ _ (by omega) ⟨by omega, by omega, by omega, by omega, by omega, ⟨fun h => absurd h (by omega), fun h => absurd HM (h.2 b hb0 (by omega))⟩, ⟨fun h => ⟨(hoo.1 h).1, zal_1 (hoo.1 h).2 HM⟩, fun h => hoo.2 ⟨h.1, fun i h1 h2 => h.2 i h1 (by omega)⟩⟩⟩
          have hV := hg.V0 (x := x) (y := y) (a := a) (b := b) ⟨by omega, by omega⟩ ⟨by omega, by omega⟩ ⟨by omega, by omega⟩ ⟨by omega, by omega⟩
          exact key _ (by omega) (by omega))
    refine T_Game_signAt_8 ?_
    refine ⟨hg.1.1, ?_⟩
    refine ⟨fun c1 => ?_, fun c1 => ?_⟩
    · skip
      refine ⟨fun c2 => ?_, fun c2 => ?_⟩
      · skip
        refine ⟨fun c3 => ?_, fun c3 => ?_⟩
        · skip
          first | exact ⟨sg0 (by rw [← show a = G 2 by omega]; exact hoI.1 (by omega)), rfl⟩ | exact ⟨sg2 (fun h => absurd (hoI.2 (by rw [show a = G 2 by omega]; exact h)) (by omega)) (fun h => absurd (he.2 (by rw [show a = G 2 by omega]; exact h)) (by omega)), rfl⟩ | exact ⟨sg1 (Classical.byContradiction fun hc => absurd (hoI.2 (fun i h1 h2 => by omega)) (by omega)) (Classical.byContradiction fun hc => absurd (hoI.2 (fun i h1 h2 j h3 h4 => by omega)) (by omega)) (by rw [← show a = G 2 by omega]; exact he.1 (by omega)), rfl⟩
        · skip
          first | exact ⟨sg0 (by rw [← show a = G 2 by omega]; exact hoI.1 (by omega)), rfl⟩ | exact ⟨sg2 (fun h => absurd (hoI.2 (by rw [show a = G 2 by omega]; exact h)) (by omega)) (fun h => absurd (he.2 (by rw [show a = G 2 by omega]; exact h)) (by omega)), rfl⟩ | exact ⟨sg1 (Classical.byContradiction fun hc => absurd (hoI.2 (fun i h1 h2 => by omega)) (by omega)) (Classical.byContradiction fun hc => absurd (hoI.2 (fun i h1 h2 j h3 h4 => by omega)) (by omega)) (by rw [← show a = G 2 by omega]; exact he.1 (by omega)), rfl⟩
      · skip
        first | exact ⟨sg0 (by rw [← show a = G 2 by omega]; exact hoI.1 (by omega)), rfl⟩ | exact ⟨sg2 (fun h => absurd (hoI.2 (by rw [show a = G 2 by omega]; exact h)) (by omega)) (fun h => absurd (he.2 (by rw [show a = G 2 by omega]; exact h)) (by omega)), rfl⟩ | exact ⟨sg1 (Classical.byContradiction fun hc => absurd (hoI.2 (fun i h1 h2 => by omega)) (by omega)) (Classical.byContradiction fun hc => absurd (hoI.2 (fun i h1 h2 j h3 h4 => by omega)) (by omega)) (by rw [← show a = G 2 by omega]; exact he.1 (by omega)), rfl⟩
    · skip
      exact L1 0 _ _ (by omega) ⟨by omega, by omega, by omega, by omega, by omega, ⟨fun h => ⟨he.1 h, zal_0 _⟩, fun h => he.2 h.1⟩, ⟨fun h => ⟨hoI.1 h, zal_0 _⟩, fun h => hoI.2 h.1⟩⟩)
  refine S_Game_signAt ?_
  exact L0 0 0 0 (by omega) ⟨by omega, by omega, by omega, by omega, ⟨fun _ => zal_0 _, fun _ => rfl⟩, ⟨fun _ => zal_0 _, fun _ => rfl⟩⟩
