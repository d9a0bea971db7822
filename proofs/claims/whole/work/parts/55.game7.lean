/-! GAME, seventh: drop, add -/
theorem c_Game_dropQuestion {d : Nat} {kd : ZK} {m : ZM} {g : Int} {G : GR} {p q : Int} (hg : CG kd m g G) (ho : GOK G) (hp : p = 0 ∨ p = 1) (hq : 0 ≤ q ∧ q < nQ G p) : CtI (d + 4) M_Game_dropQuestion [(2, g), (0, p), (0, q)] kd m (fun x m1 => x = nQ G p - 1 ∧ CG kd m1 g (opDrop G p q) ∧ ∀ c, (c < g ∨ g + 3 < c) → m1 c = m c) := by
  have q1 := ho.q p
  have q2 := ho.q (1 - p)
  have q3 := ho.a p
  have q4 := ho.a (1 - p)
  have ep : iw (1 - p) = 1 - p := iw_s (by omega) (by omega)
  have hz := hg.z
  have L0 := zfor1 (nQ G p - 1) (fun (j : Int) (mm : ZM) => Ev (d + 4) M_Game_dropQuestion 0 0 11 [(2, g), (0, p), zJ, (0, (nQ G p - 1)), (0, j)] [] kd mm (zqI kd (fun x m1 => x = nQ G p - 1 ∧ CG kd m1 g (opDrop G p q) ∧ ∀ c, (c < g ∨ g + 3 < c) → m1 c = m c))) (fun (j : Int) (mm : ZM) => q ≤ j ∧ DRI m g p q (nQ G p) (nQ G (1 - p)) (nA G p) (nA G (1 - p)) j mm) (by
    intro j mm hb hI0 KL0
    obtain ⟨hj0, hD0⟩ := hI0
    have z0 := hz.frame hD0.2.1
    refine T_Game_dropQuestion_11 ?_
    rw [iw_s (x := j + 1) (by omega) (by omega)]
    refine ⟨fun c1 => ?_, fun c1 => ?_⟩
    · skip
      refine ⟨z0.1.1, _, c_Game_setQuestions z0.1, ?_⟩
      rintro _ rfl
      rw [show j = nQ G p - 1 by omega] at hD0
      exact ⟨rfl, drop_fin hg ho hp hq hD0⟩
    · skip
      refine ⟨z0.1.1, _, c_Game_copyOver z0 ho hp ⟨by omega, by omega⟩ ⟨by omega, by omega⟩ (by omega), ?_⟩
      rintro m6 hC
      exact KL0 _ (by omega) ⟨by omega, DRI_1 (by omega) ⟨by omega, by omega, by omega⟩ hD0 hC⟩)
  refine S_Game_dropQuestion ?_
  refine ⟨hg.1.1, _, c_Game_questionsOf hg, ?_⟩
  rintro _ _ ⟨rfl, rfl⟩
  rw [iw_s (x := nQ G p - 1) (by omega) (by omega)]
  exact L0 q m (by omega) ⟨by omega, DRI_0⟩
theorem c_Game_addQuestionLike {d : Nat} {kd : ZK} {m : ZM} {g : Int} {G : GR} {p q : Int} (hg : CG kd m g G) (ho : GOK G) (hp : p = 0 ∨ p = 1) (hq : 0 ≤ q ∧ q < nQ G p) (h5 : nQ G p < 5) : CtI (d + 4) M_Game_addQuestionLike [(2, g), (0, p), (0, q)] kd m (fun x m1 => x = nQ G p + 1 ∧ CG kd m1 g (opCopy G p q) ∧ ∀ c, (c < g ∨ g + 3 < c) → m1 c = m c) := by
  have q1 := ho.q p
  have q2 := ho.q (1 - p)
  have q3 := ho.a p
  have q4 := ho.a (1 - p)
  have ep : iw (1 - p) = 1 - p := iw_s (by omega) (by omega)
  have hz := hg.z
  refine S_Game_addQuestionLike ?_
  refine ⟨hg.1.1, _, c_Game_questionsOf hg, ?_⟩
  rintro _ _ ⟨rfl, rfl⟩
  refine ⟨hg.1.1, _, c_Game_copyOver hz ho hp ⟨by omega, by omega⟩ ⟨by omega, by omega⟩ (by omega), ?_⟩
  rintro m6 hC
  have z1 := hz.frame hC.2.1
  rw [iw_s (x := nQ G p + 1) (by omega) (by omega)]
  refine ⟨hg.1.1, _, c_Game_setQuestions z1.1, ?_⟩
  rintro _ rfl
  exact ⟨rfl, add_fin hg ho hp hq h5 hC⟩
