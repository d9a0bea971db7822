/-! DUO, fifth: a row as a number -/
theorem isRw.d {G : GR} (ho : GOK G) {p : Int} {r : Int → Int} (h : isRw G p r) : ∀ q, 0 ≤ q → q < nQ G p → 0 ≤ r q ∧ r q ≤ 9 := fun q h1 h2 => by
  have := h q h1 h2
  have := ho.a p
  omega
theorem c_Duo_rowOf {d : Nat} {kd : ZK} {m : ZM} {g : Int} {G : GR} {p : Int} (hd : DU kd m) (hg : CG kd m g G) (ho : GOK G) (hr : isRw G p (m (rwD p))) : CtI (d + 2) M_Duo_rowOf [(2, 52), (2, g), (0, p)] kd m (qE m (zhn (nQ G p).toNat (m (rwD p)))) := by
  have hq := ho.q p
  refine S_Duo_rowOf ?_
  refine ⟨hd.1.1, _, c_Duo_answersBy hd, ?_⟩
  rintro _ _ ⟨rfl, rfl⟩
  refine ⟨hg.1.1, _, c_Game_questionsOf hg, ?_⟩
  rintro _ _ ⟨rfl, rfl⟩
  refine ⟨_, c_Duo_numberOf (hd.row p) (by omega) (by omega) (hr.d ho), ?_⟩
  rintro _ _ ⟨rfl, rfl⟩
  exact ⟨rfl, rfl⟩
theorem c_Duo_bestReply {d : Nat} {kd : ZK} {m : ZM} {g : Int} {G : GR} {p : Int} (hd : DU kd m) (hg : CG kd m g G) (ho : GOK G) (hr : isRw G p (m 55)) : CtI (d + 2) M_Duo_bestReply [(2, 52), (2, g), (0, p)] kd m (qE m (zhn (nQ G p).toNat (m 55))) := by
  have hq := ho.q p
  have e55 := hd.1.2.2.2
  refine S_Duo_bestReply ?_
  simp only [e55]
  refine ⟨hd.1.1, ?_⟩
  refine ⟨hg.1.1, _, c_Game_questionsOf hg, ?_⟩
  rintro _ _ ⟨rfl, rfl⟩
  refine ⟨_, c_Duo_numberOf hd.2.2.2 (by omega) (by omega) (hr.d ho), ?_⟩
  rintro _ _ ⟨rfl, rfl⟩
  exact ⟨rfl, rfl⟩
