/-! GAME, fourth: acts -/
theorem c_Game_nextState {d : Nat} {kd : ZK} {m : ZM} {s : Int} : CtI (d + 1) M_Game_nextState [(0, s)] kd m (qE m (nst s)) := by
  refine S_Game_nextState ?_
  exact ⟨rfl, rfl⟩
theorem c_Game_exchangeEntries {d : Nat} {kd : ZK} {m : ZM} {r x y : Int} (hx : zIn kd r 0 x) (hy : zIn kd r 0 y) : CtV (d + 1) M_Game_exchangeEntries [(2, r), (0, x), (0, y)] kd m (fun m1 => m1 = zup (zup m r x (m r y)) r y (m r x)) := by
  refine S_Game_exchangeEntries ?_
  refine ⟨(by assumption), (by assumption), (by assumption), (by assumption), ?_⟩
  rfl
theorem c_Game_setQuestions {d : Nat} {kd : ZK} {m : ZM} {g p n : Int} (hg : GS kd m g) : CtV (d + 1) M_Game_setQuestions [(2, g), (0, p), (0, n)] kd m (fun m1 => m1 = zup m g (if p = 0 then 0 else 1) n) := by
  refine S_Game_setQuestions ?_
  refine ⟨fun c1 => ?_, fun c1 => ?_⟩
  · skip
    refine ⟨hg.1, ?_⟩
    first | rw [if_neg (by assumption)] | rw [if_pos (by omega)]
  · skip
    refine ⟨hg.1, ?_⟩
    first | rw [if_neg (by assumption)] | rw [if_pos (by omega)]
theorem c_Game_winByParity {d : Nat} {kd : ZK} {m : ZM} {g : Int} {G : GR} {x y s : Int} (hg : CG kd m g G) (ho : GOK G) (hx : 0 ≤ x ∧ x < G 0) (hy : 0 ≤ y ∧ y < G 1) : CtV (d + 3) M_Game_winByParity [(2, g), (0, x), (0, y), (0, s)] kd m (fun m1 => DI kd m g G m1 (opPar G x y s)) := by
  have h0 := ho.1
  have L0 := zfor2 (G 2) (fun (a : Int) (mm : ZM) (H : GR) => Ev (d + 3) M_Game_winByParity 0 0 3 [(2, g), (0, x), (0, y), (0, s), (0, a), zJ] [] kd mm (zqV kd (fun m1 => DI kd m g G m1 (opPar G x y s)))) (fun (a : Int) (mm : ZM) (H : GR) => 0 ≤ a ∧ DI kd m g G mm H ∧ H = zfold a.toNat (fun a H => zfold (G 3).toNat (fun b K => gup K (29 + zS 0 x y a b) (zb ((a + b) % 2 = s))) H) G) (by
    intro a mm H hb hI0 KL0
    obtain ⟨ha0, hD0, hH⟩ := hI0
    have e0 := hD0.1.2.1
    have z0 := hD0.2.2.1
    have L1 := zfor2 (G 3) (fun (b : Int) (mm : ZM) (K : GR) => Ev (d + 3) M_Game_winByParity 0 0 15 [(2, g), (0, x), (0, y), (0, s), (0, a), (0, b)] [] kd mm (zqV kd (fun m1 => DI kd m g G m1 (opPar G x y s)))) (fun (b : Int) (mm : ZM) (K : GR) => 0 ≤ b ∧ a < G 2 ∧ DI kd m g G mm K ∧ K = zfold b.toNat (fun b K => gup K (29 + zS 0 x y a b) (zb ((a + b) % 2 = s))) H) (by
      intro b mm K hb hI1 KL1
      obtain ⟨hb0, hal, hD1, hK⟩ := hI1
      have e1 := hD1.1.2.1
      have z1 := hD1.2.2.1
      have e53 : Int.tmod (iw (a + b)) 2 = (a + b) % 2 := by rw [iw_s (by omega) (by omega)]; exact tmod2 (by omega)
      refine T_Game_winByParity_15 ?_
      refine ⟨hD1.1.1.1, ?_⟩
      refine ⟨fun c1 => ?_, fun c1 => ?_⟩
      · try simp only [e53] at c1
        rw [iw_s (x := a + 1) (by omega) (by omega)]
        exact KL0 mm K (by omega) ⟨by omega, hD1, by rw [zfold_1 ha0, ← hH, hK, show b = G 3 by omega]⟩
      · try simp only [e53] at c1
        refine ⟨hD1.1.1.1, ?_⟩
        refine ⟨_, c_Ap_spotOf (by omega) (by omega) (by omega) (by omega), ?_⟩
        rintro _ _ ⟨rfl, rfl⟩
        refine ⟨fun c2 => ?_, fun c2 => ?_⟩
        · try simp only [e53] at c2
          refine ⟨hD1.1.1.inV (zS_in (by omega) (by omega) (by omega) (by omega)), ?_⟩
          rw [iw_s (x := b + 1) (by omega) (by omega)]
          have hv : zb ((a + b) % 2 = s) = 0 := zb_f (by omega)
          exact KL1 _ (gup K (29 + zS 0 x y a b) 0) (by omega) ⟨by omega, by omega, hD1.putV (p := 0) (Or.inl rfl) (show 0 ≤ x ∧ x < G 0 by omega) (show 0 ≤ y ∧ y < G 1 by omega) (show 0 ≤ a ∧ a < G 2 by omega) (show 0 ≤ b ∧ b < G 3 by omega) (by decide), by rw [zfold_1 hb0, ← hK, hv]⟩
        · try simp only [e53] at c2
          refine ⟨hD1.1.1.inV (zS_in (by omega) (by omega) (by omega) (by omega)), ?_⟩
          rw [iw_s (x := b + 1) (by omega) (by omega)]
          have hv : zb ((a + b) % 2 = s) = 1 := zb_t (by omega)
          exact KL1 _ (gup K (29 + zS 0 x y a b) 1) (by omega) ⟨by omega, by omega, hD1.putV (p := 0) (Or.inl rfl) (show 0 ≤ x ∧ x < G 0 by omega) (show 0 ≤ y ∧ y < G 1 by omega) (show 0 ≤ a ∧ a < G 2 by omega) (show 0 ≤ b ∧ b < G 3 by omega) (by decide), by rw [zfold_1 hb0, ← hK, hv]⟩)
    refine T_Game_winByParity_3 ?_
    refine ⟨hD0.1.1.1, ?_⟩
    refine ⟨fun c1 => ?_, fun c1 => ?_⟩
    · skip
      rw [show a = G 2 by omega] at hH
      rw [hH] at hD0
      exact hD0
    · skip
      exact L1 0 mm H (by omega) ⟨by omega, by omega, hD0, rfl⟩)
  refine S_Game_winByParity ?_
  exact L0 0 m G (by omega) ⟨by omega, DI.rf hg ho, rfl⟩
theorem DI.swV {kd : ZK} {m mm : ZM} {g : Int} {G K : GR} (h : DI kd m g G mm K) {p x y a o b : Int} (hp : p = 0 ∨ p = 1) (hx : 0 ≤ x ∧ x < nQ G p) (hy : 0 ≤ y ∧ y < nQ G (1 - p)) (ha : 0 ≤ a ∧ a < nA G p) (hoo : 0 ≤ o ∧ o < nA G p) (hb : 0 ≤ b ∧ b < nA G (1 - p)) : DI kd m g G (zup (zup mm (mm g 5) (zS p x y a b) (mm (mm g 5) (zS p x y o b))) (mm g 5) (zS p x y o b) (mm (mm g 5) (zS p x y a b))) (swp K (29 + zS p x y a b) (29 + zS p x y o b)) := by
  have r1 := (h.rd hp hx hy ha hb).1
  have r2 := (h.rd hp hx hy hoo hb).1
  have k1 := h.putV hp hx hy ha hb (v := mm (mm g 5) (zS p x y o b)) (by omega)
  have k2 := k1.putV hp hx hy hoo hb (v := mm (mm g 5) (zS p x y a b)) (by omega)
  rw [show (zup mm (mm g 5) (zS p x y a b) (mm (mm g 5) (zS p x y o b))) g 5 = mm g 5 by rw [zup_off (by rw [h.1.1.2.1.2.1]; omega)], r1.1, r2.1] at k2
  rw [r1.1, r2.1]
  exact k2
theorem DI.swB {kd : ZK} {m mm : ZM} {g : Int} {G K : GR} (h : DI kd m g G mm K) {p x y a o b : Int} (hp : p = 0 ∨ p = 1) (hx : 0 ≤ x ∧ x < nQ G p) (hy : 0 ≤ y ∧ y < nQ G (1 - p)) (ha : 0 ≤ a ∧ a < nA G p) (hoo : 0 ≤ o ∧ o < nA G p) (hb : 0 ≤ b ∧ b < nA G (1 - p)) : DI kd m g G (zup (zup mm (mm g 6) (zS p x y a b) (mm (mm g 6) (zS p x y o b))) (mm g 6) (zS p x y o b) (mm (mm g 6) (zS p x y a b))) (swp K (429 + zS p x y a b) (429 + zS p x y o b)) := by
  have r1 := (h.rd hp hx hy ha hb).2
  have r2 := (h.rd hp hx hy hoo hb).2
  have k1 := h.putB hp hx hy ha hb (v := mm (mm g 6) (zS p x y o b)) (by omega)
  have k2 := k1.putB hp hx hy hoo hb (v := mm (mm g 6) (zS p x y a b)) (by omega)
  rw [show (zup mm (mm g 6) (zS p x y a b) (mm (mm g 6) (zS p x y o b))) g 6 = mm g 6 by rw [zup_off (by rw [h.1.1.2.1.2.2]; omega)], r1.1, r2.1] at k2
  rw [r1.1, r2.1]
  exact k2
theorem c_Game_exchangeAnswers {d : Nat} {kd : ZK} {m : ZM} {g : Int} {G : GR} {p x a o : Int} (hg : CG kd m g G) (ho : GOK G) (hp : p = 0 ∨ p = 1) (hx : 0 ≤ x ∧ x < nQ G p) (ha : 0 ≤ a ∧ a < nA G p) (hoo : 0 ≤ o ∧ o < nA G p) : CtV (d + 3) M_Game_exchangeAnswers [(2, g), (0, p), (0, x), (0, a), (0, o)] kd m (fun m1 => DI kd m g G m1 (opEx G p x a o)) := by
  have q1 := ho.q p
  have q2 := ho.q (1 - p)
  have q3 := ho.a p
  have q4 := ho.a (1 - p)
  have ep : iw (1 - p) = 1 - p := iw_s (by omega) (by omega)
  have L0 := zfor2 (nQ G (1 - p)) (fun (h : Int) (mm : ZM) (H : GR) => Ev (d + 3) M_Game_exchangeAnswers 0 0 3 [(2, g), (0, p), (0, x), (0, a), (0, o), (0, h), zJ, zJ, zJ] [] kd mm (zqV kd (fun m1 => DI kd m g G m1 (opEx G p x a o)))) (fun (h : Int) (mm : ZM) (H : GR) => 0 ≤ h ∧ DI kd m g G mm H ∧ H = zfold h.toNat (fun h H => zfold (nA G (1 - p)).toNat (fun b K => swp (swp K (29 + zS p x h a b) (29 + zS p x h o b)) (429 + zS p x h a b) (429 + zS p x h o b)) H) G) (by
    intro h mm H hb hI0 KL0
    obtain ⟨hh0, hD0, hH⟩ := hI0
    have s0 := (hD0.sq (1 - p)).1
    have L1 := zfor2 (nA G (1 - p)) (fun (b : Int) (mm : ZM) (K : GR) => Ev (d + 3) M_Game_exchangeAnswers 0 0 18 [(2, g), (0, p), (0, x), (0, a), (0, o), (0, h), (0, b), zJ, zJ] [] kd mm (zqV kd (fun m1 => DI kd m g G m1 (opEx G p x a o)))) (fun (b : Int) (mm : ZM) (K : GR) => 0 ≤ b ∧ h < nQ G (1 - p) ∧ DI kd m g G mm K ∧ K = zfold b.toNat (fun b K => swp (swp K (29 + zS p x h a b) (29 + zS p x h o b)) (429 + zS p x h a b) (429 + zS p x h o b)) H) (by
      intro b mm K hb hI1 KL1
      obtain ⟨hb0, hhl, hD1, hK⟩ := hI1
      have s1 := (hD1.sq (1 - p)).2
      refine T_Game_exchangeAnswers_18 ?_
      simp only [ep]
      refine ⟨hD1.1.1.1, _, c_Game_answersOf hD1.1, ?_⟩
      rintro _ _ ⟨rfl, rfl⟩
      refine ⟨fun c1 => ?_, fun c1 => ?_⟩
      · try simp only [s1] at c1
        rw [iw_s (x := h + 1) (by omega) (by omega)]
        exact KL0 _ K (by omega) ⟨by omega, hD1, by rw [zfold_1 hh0, ← hH, hK, show b = nA G (1 - p) by omega]⟩
      · try simp only [s1] at c1
        refine ⟨_, c_Ap_spotOf (by omega) (by omega) (by omega) (by omega), ?_⟩
        rintro _ _ ⟨rfl, rfl⟩
        refine ⟨_, c_Ap_spotOf (by omega) (by omega) (by omega) (by omega), ?_⟩
        rintro _ _ ⟨rfl, rfl⟩
        refine ⟨hD1.1.1.1, ?_⟩
        refine ⟨_, c_Game_exchangeEntries (hD1.1.1.inV (zS_in (by omega) (by omega) (by omega) (by omega))) (hD1.1.1.inV (zS_in (by omega) (by omega) (by omega) (by omega))), ?_⟩
        rintro _ rfl
        have hD2 := hD1.swV (y := h) (b := b) hp hx ⟨by omega, by omega⟩ ha hoo ⟨by omega, by omega⟩
        refine ⟨hD1.1.1.1, ?_⟩
        refine ⟨_, c_Game_exchangeEntries (hD2.1.1.inB (zS_in (by omega) (by omega) (by omega) (by omega))) (hD2.1.1.inB (zS_in (by omega) (by omega) (by omega) (by omega))), ?_⟩
        rintro _ rfl
        rw [iw_s (x := b + 1) (by omega) (by omega)]
        exact KL1 _ _ (by omega) ⟨by omega, by omega, hD2.swB hp hx ⟨by omega, by omega⟩ ha hoo ⟨by omega, by omega⟩, by rw [zfold_1 hb0, ← hK]⟩)
    refine T_Game_exchangeAnswers_3 ?_
    simp only [ep]
    refine ⟨hD0.1.1.1, _, c_Game_questionsOf hD0.1, ?_⟩
    rintro _ _ ⟨rfl, rfl⟩
    refine ⟨fun c1 => ?_, fun c1 => ?_⟩
    · try simp only [s0] at c1
      rw [show h = nQ G (1 - p) by omega] at hH
      rw [hH] at hD0
      exact hD0
    · try simp only [s0] at c1
      exact L1 0 _ H (by omega) ⟨by omega, by omega, hD0, rfl⟩)
  refine S_Game_exchangeAnswers ?_
  exact L0 0 m G (by omega) ⟨by omega, DI.rf hg ho, rfl⟩
