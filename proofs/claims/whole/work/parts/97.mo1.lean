/-! THE MODEL: one row of numbers; what its readers answer -/
theorem zbF {P : Prop} (h : ¬ P) : (0 : Int) = zb P := Eq.symm (zb_f h)
theorem zbT {P : Prop} (h : P) : (1 : Int) = zb P := Eq.symm (zb_t h)
def MKd (kd : ZK) : Prop := zobj kd 78 8 ∧ zarr kd 79 0 829 ∧ zarr kd 80 0 829 ∧ zarr kd 81 0 829 ∧ zarr kd 82 0 8290 ∧ zarr kd 83 0 1658 ∧ zarr kd 84 1 2 ∧ zarr kd 85 2 400 ∧ zarr kd 86 0 5 ∧ zarr kd 87 0 5 ∧ zarr kd 88 0 4 ∧ zarr kd 89 0 10 ∧ zarr kd 90 0 25600 ∧ zarr kd 91 0 4 ∧ zarr kd 92 0 400 ∧ zarr kd 93 0 5 ∧ zarr kd 94 0 5
def MR (r : Int → Int) : Prop := r 0 = 79 ∧ r 1 = 80 ∧ r 2 = 81 ∧ r 3 = 82 ∧ r 4 = 83 ∧ r 5 = 84 ∧ r 7 = 85 ∧ r 12 = 86 ∧ r 13 = 87 ∧ r 15 = 88 ∧ r 17 = 89 ∧ r 18 = 90 ∧ r 19 = 91 ∧ r 20 = 92 ∧ r 21 = 93 ∧ r 22 = 94
def MS (kd : ZK) (m : ZM) : Prop := MKd kd ∧ MR (m 78)
def MG (kd : ZK) (m : ZM) (G : GR) : Prop := MS kd m ∧ (∀ i, 0 ≤ i → i < 829 → m 79 i = G i) ∧ GOK G
section
variable {kd : ZK} {m : ZM} {G : GR}
theorem MS.o (h : MS kd m) : zobj kd 78 8 := h.1.1
theorem MS.k79 (h : MS kd m) : zarr kd 79 0 829 := h.1.2.1
theorem MS.k80 (h : MS kd m) : zarr kd 80 0 829 := h.1.2.2.1
theorem MS.k81 (h : MS kd m) : zarr kd 81 0 829 := h.1.2.2.2.1
theorem MS.k82 (h : MS kd m) : zarr kd 82 0 8290 := h.1.2.2.2.2.1
theorem MS.k83 (h : MS kd m) : zarr kd 83 0 1658 := h.1.2.2.2.2.2.1
theorem MS.k84 (h : MS kd m) : zarr kd 84 1 2 := h.1.2.2.2.2.2.2.1
theorem MS.k85 (h : MS kd m) : zarr kd 85 2 400 := h.1.2.2.2.2.2.2.2.1
theorem MS.k86 (h : MS kd m) : zarr kd 86 0 5 := h.1.2.2.2.2.2.2.2.2.1
theorem MS.k87 (h : MS kd m) : zarr kd 87 0 5 := h.1.2.2.2.2.2.2.2.2.2.1
theorem MS.k88 (h : MS kd m) : zarr kd 88 0 4 := h.1.2.2.2.2.2.2.2.2.2.2.1
theorem MS.k89 (h : MS kd m) : zarr kd 89 0 10 := h.1.2.2.2.2.2.2.2.2.2.2.2.1
theorem MS.k90 (h : MS kd m) : zarr kd 90 0 25600 := h.1.2.2.2.2.2.2.2.2.2.2.2.2.1
theorem MS.k91 (h : MS kd m) : zarr kd 91 0 4 := h.1.2.2.2.2.2.2.2.2.2.2.2.2.2.1
theorem MS.k92 (h : MS kd m) : zarr kd 92 0 400 := h.1.2.2.2.2.2.2.2.2.2.2.2.2.2.2.1
theorem MS.k93 (h : MS kd m) : zarr kd 93 0 5 := h.1.2.2.2.2.2.2.2.2.2.2.2.2.2.2.2.1
theorem MS.k94 (h : MS kd m) : zarr kd 94 0 5 := h.1.2.2.2.2.2.2.2.2.2.2.2.2.2.2.2.2
theorem MS.r0 (h : MS kd m) : m 78 0 = 79 := h.2.1
theorem MS.r1 (h : MS kd m) : m 78 1 = 80 := h.2.2.1
theorem MS.r2 (h : MS kd m) : m 78 2 = 81 := h.2.2.2.1
theorem MS.r3 (h : MS kd m) : m 78 3 = 82 := h.2.2.2.2.1
theorem MS.r4 (h : MS kd m) : m 78 4 = 83 := h.2.2.2.2.2.1
theorem MS.r5 (h : MS kd m) : m 78 5 = 84 := h.2.2.2.2.2.2.1
theorem MS.r7 (h : MS kd m) : m 78 7 = 85 := h.2.2.2.2.2.2.2.1
theorem MS.r12 (h : MS kd m) : m 78 12 = 86 := h.2.2.2.2.2.2.2.2.1
theorem MS.r13 (h : MS kd m) : m 78 13 = 87 := h.2.2.2.2.2.2.2.2.2.1
theorem MS.r15 (h : MS kd m) : m 78 15 = 88 := h.2.2.2.2.2.2.2.2.2.2.1
theorem MS.r17 (h : MS kd m) : m 78 17 = 89 := h.2.2.2.2.2.2.2.2.2.2.2.1
theorem MS.r18 (h : MS kd m) : m 78 18 = 90 := h.2.2.2.2.2.2.2.2.2.2.2.2.1
theorem MS.r19 (h : MS kd m) : m 78 19 = 91 := h.2.2.2.2.2.2.2.2.2.2.2.2.2.1
theorem MS.r20 (h : MS kd m) : m 78 20 = 92 := h.2.2.2.2.2.2.2.2.2.2.2.2.2.2.1
theorem MS.r21 (h : MS kd m) : m 78 21 = 93 := h.2.2.2.2.2.2.2.2.2.2.2.2.2.2.2.1
theorem MS.r22 (h : MS kd m) : m 78 22 = 94 := h.2.2.2.2.2.2.2.2.2.2.2.2.2.2.2.2
theorem MG.s (h : MG kd m G) : MS kd m := h.1
theorem MG.now (h : MG kd m G) {i : Int} (h0 : 0 ≤ i) (h1 : i < 829) : m 79 i = G i := h.2.1 i h0 h1
theorem MG.ok (h : MG kd m G) : GOK G := h.2.2
theorem MS.fr {m1_q : ZM} (h : MS kd m) (e : m1_q 78 = m 78) : MS kd m1_q := ⟨h.1, by rw [e]; exact h.2⟩
theorem MG.fr {m1_q : ZM} (h : MG kd m G) (e : m1_q 78 = m 78) (e2_q : m1_q 79 = m 79) : MG kd m1_q G := ⟨h.1.fr e, by rw [e2_q]; exact h.2.1, h.2.2⟩
theorem MS.up {k v : Int} (h : MS kd m) (hk : k = 6 ∨ (8 ≤ k ∧ k ≤ 11) ∨ k = 14 ∨ k = 16 ∨ 23 ≤ k) : MS kd (zup m 78 k v) := by
  refine ⟨h.1, ?_⟩
  rw [zup_at]
  unfold MR
  have e : ∀ j : Int, j ≠ k → gup (m 78) k v j = m 78 j := fun j hj => gup_off hj
  rw [e 0 (by omega), e 1 (by omega), e 2 (by omega), e 3 (by omega), e 4 (by omega), e 5 (by omega), e 7 (by omega), e 12 (by omega), e 13 (by omega), e 15 (by omega), e 17 (by omega), e 18 (by omega), e 19 (by omega), e 20 (by omega), e 21 (by omega), e 22 (by omega)]
  exact h.2
theorem MG.up {k v : Int} (h : MG kd m G) (hk : k = 6 ∨ (8 ≤ k ∧ k ≤ 11) ∨ k = 14 ∨ k = 16 ∨ 23 ≤ k) : MG kd (zup m 78 k v) G := ⟨h.1.up hk, by rw [zup_off (by decide)]; exact h.2.1, h.2.2⟩
end
theorem zcmp_l {x y : Int} : zcmp x y < 0 ↔ x < y := by
  unfold zcmp; split
  · omega
  · split <;> omega
theorem zcmp_g {x y : Int} : 0 < zcmp x y ↔ y < x := by
  unfold zcmp; split
  · omega
  · split <;> omega
theorem c_Mo_in {d : Nat} {kd : ZK} {m : ZM} {v lo hi_q : Int} : CtI (d + 1) M_Mo_in [(1, v), (1, lo), (1, hi_q)] kd m (qE m (zb (lo ≤ v ∧ v ≤ hi_q))) := by
  refine S_Mo_in ?_
  refine ⟨fun qc_1 => ?_, fun qc_1 => ?_⟩
  · try simp only [zcmp_l, zcmp_g] at qc_1
    first | exact ⟨⟨by decide, by decide⟩, (zbF (by omega)), rfl⟩ | exact ⟨⟨by decide, by decide⟩, (zbT (by omega)), rfl⟩ | exact ⟨(zbF (by omega)), rfl⟩ | exact ⟨(zbT (by omega)), rfl⟩
  · try simp only [zcmp_l, zcmp_g] at qc_1
    refine ⟨fun qc_2 => ?_, fun qc_2 => ?_⟩
    · try simp only [zcmp_l, zcmp_g] at qc_2
      first | exact ⟨⟨by decide, by decide⟩, (zbF (by omega)), rfl⟩ | exact ⟨⟨by decide, by decide⟩, (zbT (by omega)), rfl⟩ | exact ⟨(zbF (by omega)), rfl⟩ | exact ⟨(zbT (by omega)), rfl⟩
    · try simp only [zcmp_l, zcmp_g] at qc_2
      first | exact ⟨⟨by decide, by decide⟩, (zbF (by omega)), rfl⟩ | exact ⟨⟨by decide, by decide⟩, (zbT (by omega)), rfl⟩ | exact ⟨(zbF (by omega)), rfl⟩ | exact ⟨(zbT (by omega)), rfl⟩
theorem c_Mo_truth {d : Nat} {kd : ZK} {m : ZM} {v : Int} : CtI (d + 1) M_Mo_truth [(0, v)] kd m (qE m (if v = 0 then 0 else 1)) := by
  refine S_Mo_truth ?_
  refine ⟨fun qc_1 => ?_, fun qc_1 => ?_⟩
  · skip
    first | exact ⟨(if_pos (by assumption)).symm, rfl⟩ | exact ⟨(if_neg (by assumption)).symm, rfl⟩
  · skip
    first | exact ⟨(if_pos (by assumption)).symm, rfl⟩ | exact ⟨(if_neg (by assumption)).symm, rfl⟩
theorem trB {P : Prop} : (if zb P = 0 then (0 : Int) else 1) = zb P := by
  rcases Classical.em P with h | h
  · rw [zb_t h]; rfl
  · rw [zb_f h]; rfl
theorem c_Mo_twoOf {d : Nat} {kd : ZK} {m : ZM} {x y : Int} (hx : 0 ≤ x ∧ x < 1000) (hy : 0 ≤ y ∧ y < 1000) : CtI (d + 1) M_Mo_twoOf [(0, x), (0, y)] kd m (qE m (5 * x + y)) := by
  refine S_Mo_twoOf ?_
  exact ⟨by rw [iw_s (x := 5 * x) (by omega) (by omega), iw_s (by omega) (by omega)], rfl⟩
theorem c_Mo_fourOf {d : Nat} {kd : ZK} {m : ZM} {x y a b : Int} (hx : 0 ≤ x ∧ x < 5) (hy : 0 ≤ y ∧ y < 5) (ha_q : 0 ≤ a ∧ a < 4) (hb_q : 0 ≤ b ∧ b < 4) : CtI (d + 2) M_Mo_fourOf [(0, x), (0, y), (0, a), (0, b)] kd m (qE m (4 * (4 * (5 * x + y) + a) + b)) := by
  refine S_Mo_fourOf ?_
  refine ⟨_, c_Mo_twoOf (by omega) (by omega), ?_⟩
  rintro _ _ ⟨rfl, rfl⟩
  exact ⟨by rw [iw_s (x := 4 * (5 * x + y)) (by omega) (by omega), iw_s (x := 4 * (5 * x + y) + a) (by omega) (by omega), iw_s (x := 4 * (4 * (5 * x + y) + a)) (by omega) (by omega), iw_s (by omega) (by omega)], rfl⟩
theorem c_Mo_questions {d : Nat} {kd : ZK} {m : ZM} {G : GR} {p : Int} (h : MG kd m G) (hp : p = 0 ∨ p = 1) : CtI (d + 1) M_Mo_questions [(2, 78), (0, p)] kd m (qE m (nQ G p)) := by
  have r0 := h.s.r0
  have r1_q := h.s.r1
  have r2 := h.s.r2
  have r3 := h.s.r3
  have r4 := h.s.r4
  have r5_q := h.s.r5
  have r7 := h.s.r7
  have r12 := h.s.r12
  have r13 := h.s.r13
  have r15 := h.s.r15
  have r17 := h.s.r17
  have r18 := h.s.r18
  have r19 := h.s.r19
  have r20 := h.s.r20
  have r21 := h.s.r21
  have r22 := h.s.r22
  refine S_Mo_questions ?_
  try simp only [r0, r1_q, r2, r3, r4, r5_q, r7, r12, r13, r15, r17, r18, r19, r20, r21, r22]
  refine ⟨h.s.o, (by rw [iw_s (by omega) (by omega)]; exact ⟨829, h.s.k79, by omega, by omega⟩), ?_⟩
  rw [iw_s (by omega) (by omega)]
  rcases hp with e | e <;> subst e <;> exact ⟨h.now (by decide) (by decide), rfl⟩
theorem c_Mo_answers {d : Nat} {kd : ZK} {m : ZM} {G : GR} {p : Int} (h : MG kd m G) (hp : p = 0 ∨ p = 1) : CtI (d + 1) M_Mo_answers [(2, 78), (0, p)] kd m (qE m (nA G p)) := by
  have r0 := h.s.r0
  have r1_q := h.s.r1
  have r2 := h.s.r2
  have r3 := h.s.r3
  have r4 := h.s.r4
  have r5_q := h.s.r5
  have r7 := h.s.r7
  have r12 := h.s.r12
  have r13 := h.s.r13
  have r15 := h.s.r15
  have r17 := h.s.r17
  have r18 := h.s.r18
  have r19 := h.s.r19
  have r20 := h.s.r20
  have r21 := h.s.r21
  have r22 := h.s.r22
  refine S_Mo_answers ?_
  try simp only [r0, r1_q, r2, r3, r4, r5_q, r7, r12, r13, r15, r17, r18, r19, r20, r21, r22]
  refine ⟨h.s.o, (by rw [iw_s (by omega) (by omega)]; exact ⟨829, h.s.k79, by omega, by omega⟩), ?_⟩
  rw [iw_s (by omega) (by omega)]
  rcases hp with e | e <;> subst e <;> exact ⟨h.now (by decide) (by decide), rfl⟩
theorem c_Mo_hasGame {d : Nat} {kd : ZK} {m : ZM} {G : GR} (h : MG kd m G) : CtI (d + 1) M_Mo_hasGame [(2, 78)] kd m (qE m (zb (0 < G 0))) := by
  have r0 := h.s.r0
  have r1_q := h.s.r1
  have r2 := h.s.r2
  have r3 := h.s.r3
  have r4 := h.s.r4
  have r5_q := h.s.r5
  have r7 := h.s.r7
  have r12 := h.s.r12
  have r13 := h.s.r13
  have r15 := h.s.r15
  have r17 := h.s.r17
  have r18 := h.s.r18
  have r19 := h.s.r19
  have r20 := h.s.r20
  have r21 := h.s.r21
  have r22 := h.s.r22
  have e0_q := h.now (i := 0) (by decide) (by decide)
  refine S_Mo_hasGame ?_
  try simp only [r0, r1_q, r2, r3, r4, r5_q, r7, r12, r13, r15, r17, r18, r19, r20, r21, r22]
  refine ⟨h.s.o, ⟨829, h.s.k79, by omega, by omega⟩, ?_⟩
  refine ⟨fun qc_1 => ?_, fun qc_1 => ?_⟩
  · skip
    first | exact ⟨⟨by decide, by decide⟩, (zbF (by omega)), rfl⟩ | exact ⟨⟨by decide, by decide⟩, (zbT (by omega)), rfl⟩ | exact ⟨(zbF (by omega)), rfl⟩ | exact ⟨(zbT (by omega)), rfl⟩
  · skip
    first | exact ⟨⟨by decide, by decide⟩, (zbF (by omega)), rfl⟩ | exact ⟨⟨by decide, by decide⟩, (zbT (by omega)), rfl⟩ | exact ⟨(zbF (by omega)), rfl⟩ | exact ⟨(zbT (by omega)), rfl⟩
theorem c_Mo_isPlayer {d : Nat} {kd : ZK} {m : ZM} {p : Int} : CtI (d + 2) M_Mo_isPlayer [(0, p)] kd m (qE m (zb (p = 0 ∨ p = 1))) := by
  refine S_Mo_isPlayer ?_
  refine ⟨_, c_Mo_in, ?_⟩
  rintro _ _ ⟨rfl, rfl⟩
  exact ⟨zb_01, zb_congr (by omega), rfl⟩
theorem c_Mo_isQuestion {d : Nat} {kd : ZK} {m : ZM} {G : GR} {p x : Int} (h : MG kd m G) (hp : p = 0 ∨ p = 1) : CtI (d + 2) M_Mo_isQuestion [(2, 78), (0, p), (0, x)] kd m (qE m (zb (isQ G p x))) := by
  have r0 := h.s.r0
  have r1_q := h.s.r1
  have r2 := h.s.r2
  have r3 := h.s.r3
  have r4 := h.s.r4
  have r5_q := h.s.r5
  have r7 := h.s.r7
  have r12 := h.s.r12
  have r13 := h.s.r13
  have r15 := h.s.r15
  have r17 := h.s.r17
  have r18 := h.s.r18
  have r19 := h.s.r19
  have r20 := h.s.r20
  have r21 := h.s.r21
  have r22 := h.s.r22
  have hqp := h.ok.q p
  refine S_Mo_isQuestion ?_
  try simp only [r0, r1_q, r2, r3, r4, r5_q, r7, r12, r13, r15, r17, r18, r19, r20, r21, r22]
  refine ⟨h.s.o, _, c_Mo_questions h (by omega), ?_⟩
  rintro _ _ ⟨rfl, rfl⟩
  refine ⟨_, c_Mo_in, ?_⟩
  rintro _ _ ⟨rfl, rfl⟩
  exact ⟨zb_01, zb_congr (by rw [iw_s (by omega) (by omega)]; omega), rfl⟩
theorem c_Mo_isAnswer {d : Nat} {kd : ZK} {m : ZM} {G : GR} {p x : Int} (h : MG kd m G) (hp : p = 0 ∨ p = 1) : CtI (d + 2) M_Mo_isAnswer [(2, 78), (0, p), (0, x)] kd m (qE m (zb (isA G p x))) := by
  have r0 := h.s.r0
  have r1_q := h.s.r1
  have r2 := h.s.r2
  have r3 := h.s.r3
  have r4 := h.s.r4
  have r5_q := h.s.r5
  have r7 := h.s.r7
  have r12 := h.s.r12
  have r13 := h.s.r13
  have r15 := h.s.r15
  have r17 := h.s.r17
  have r18 := h.s.r18
  have r19 := h.s.r19
  have r20 := h.s.r20
  have r21 := h.s.r21
  have r22 := h.s.r22
  have hqp := h.ok.a p
  refine S_Mo_isAnswer ?_
  try simp only [r0, r1_q, r2, r3, r4, r5_q, r7, r12, r13, r15, r17, r18, r19, r20, r21, r22]
  refine ⟨h.s.o, _, c_Mo_answers h (by omega), ?_⟩
  rintro _ _ ⟨rfl, rfl⟩
  refine ⟨_, c_Mo_in, ?_⟩
  rintro _ _ ⟨rfl, rfl⟩
  exact ⟨zb_01, zb_congr (by rw [iw_s (by omega) (by omega)]; omega), rfl⟩
theorem c_Mo_areTwo {d : Nat} {kd : ZK} {m : ZM} {G : GR} {x y : Int} (h : MG kd m G) : CtI (d + 3) M_Mo_areTwo [(2, 78), (0, x), (0, y)] kd m (qE m (zb (isQ G 0 x ∧ isQ G 1 y))) := by
  have r0 := h.s.r0
  have r1_q := h.s.r1
  have r2 := h.s.r2
  have r3 := h.s.r3
  have r4 := h.s.r4
  have r5_q := h.s.r5
  have r7 := h.s.r7
  have r12 := h.s.r12
  have r13 := h.s.r13
  have r15 := h.s.r15
  have r17 := h.s.r17
  have r18 := h.s.r18
  have r19 := h.s.r19
  have r20 := h.s.r20
  have r21 := h.s.r21
  have r22 := h.s.r22
  refine S_Mo_areTwo ?_
  try simp only [r0, r1_q, r2, r3, r4, r5_q, r7, r12, r13, r15, r17, r18, r19, r20, r21, r22]
  refine ⟨h.s.o, _, c_Mo_isQuestion h (Or.inl rfl), ?_⟩
  rintro _ _ ⟨rfl, rfl⟩
  refine ⟨fun qc_1 => ?_, fun qc_1 => ?_⟩
  · try simp only [zb_eq0, zb_ne0] at qc_1
    first | exact ⟨(zbF (by omega)), rfl⟩ | exact ⟨(zbT (by omega)), rfl⟩
  · try simp only [zb_eq0, zb_ne0] at qc_1
    refine ⟨h.s.o, _, c_Mo_isQuestion h (Or.inr rfl), ?_⟩
    rintro _ _ ⟨rfl, rfl⟩
    refine ⟨fun qc_2 => ?_, fun qc_2 => ?_⟩
    · try simp only [zb_eq0, zb_ne0] at qc_2
      first | exact ⟨(zbF (by omega)), rfl⟩ | exact ⟨(zbT (by omega)), rfl⟩
    · try simp only [zb_eq0, zb_ne0] at qc_2
      first | exact ⟨(zbF (by omega)), rfl⟩ | exact ⟨(zbT (by omega)), rfl⟩
theorem c_Mo_areFour {d : Nat} {kd : ZK} {m : ZM} {G : GR} {x y a b : Int} (h : MG kd m G) : CtI (d + 4) M_Mo_areFour [(2, 78), (0, x), (0, y), (0, a), (0, b)] kd m (qE m (zb ((isQ G 0 x ∧ isQ G 1 y) ∧ isA G 0 a ∧ isA G 1 b))) := by
  have r0 := h.s.r0
  have r1_q := h.s.r1
  have r2 := h.s.r2
  have r3 := h.s.r3
  have r4 := h.s.r4
  have r5_q := h.s.r5
  have r7 := h.s.r7
  have r12 := h.s.r12
  have r13 := h.s.r13
  have r15 := h.s.r15
  have r17 := h.s.r17
  have r18 := h.s.r18
  have r19 := h.s.r19
  have r20 := h.s.r20
  have r21 := h.s.r21
  have r22 := h.s.r22
  refine S_Mo_areFour ?_
  try simp only [r0, r1_q, r2, r3, r4, r5_q, r7, r12, r13, r15, r17, r18, r19, r20, r21, r22]
  refine ⟨h.s.o, _, c_Mo_areTwo h, ?_⟩
  rintro _ _ ⟨rfl, rfl⟩
  refine ⟨fun qc_1 => ?_, fun qc_1 => ?_⟩
  · try simp only [zb_eq0, zb_ne0] at qc_1
    first | exact ⟨(zbF (by omega)), rfl⟩ | exact ⟨(zbT (by omega)), rfl⟩
  · try simp only [zb_eq0, zb_ne0] at qc_1
    refine ⟨h.s.o, _, c_Mo_isAnswer h (Or.inl rfl), ?_⟩
    rintro _ _ ⟨rfl, rfl⟩
    refine ⟨fun qc_2 => ?_, fun qc_2 => ?_⟩
    · try simp only [zb_eq0, zb_ne0] at qc_2
      first | exact ⟨(zbF (by omega)), rfl⟩ | exact ⟨(zbT (by omega)), rfl⟩
    · try simp only [zb_eq0, zb_ne0] at qc_2
      refine ⟨h.s.o, _, c_Mo_isAnswer h (Or.inr rfl), ?_⟩
      rintro _ _ ⟨rfl, rfl⟩
      refine ⟨fun qc_3 => ?_, fun qc_3 => ?_⟩
      · try simp only [zb_eq0, zb_ne0] at qc_3
        first | exact ⟨(zbF (by omega)), rfl⟩ | exact ⟨(zbT (by omega)), rfl⟩
      · try simp only [zb_eq0, zb_ne0] at qc_3
        first | exact ⟨(zbF (by omega)), rfl⟩ | exact ⟨(zbT (by omega)), rfl⟩
theorem c_Mo_weightOf {d : Nat} {kd : ZK} {m : ZM} {G : GR} {x y : Int} (h : MG kd m G) (hx : 0 ≤ x ∧ x < 5) (hy : 0 ≤ y ∧ y < 5) : CtI (d + 2) M_Mo_weightOf [(2, 78), (0, x), (0, y)] kd m (qE m (gW G x y)) := by
  have r0 := h.s.r0
  have r1_q := h.s.r1
  have r2 := h.s.r2
  have r3 := h.s.r3
  have r4 := h.s.r4
  have r5_q := h.s.r5
  have r7 := h.s.r7
  have r12 := h.s.r12
  have r13 := h.s.r13
  have r15 := h.s.r15
  have r17 := h.s.r17
  have r18 := h.s.r18
  have r19 := h.s.r19
  have r20 := h.s.r20
  have r21 := h.s.r21
  have r22 := h.s.r22
  refine S_Mo_weightOf ?_
  try simp only [r0, r1_q, r2, r3, r4, r5_q, r7, r12, r13, r15, r17, r18, r19, r20, r21, r22]
  refine ⟨h.s.o, ?_⟩
  refine ⟨_, c_Mo_twoOf (by omega) (by omega), ?_⟩
  rintro _ _ ⟨rfl, rfl⟩
  refine ⟨(by rw [iw_s (by omega) (by omega)]; exact ⟨829, h.s.k79, by omega, by omega⟩), ?_⟩
  rw [iw_s (by omega) (by omega), h.now (by omega) (by omega), gW_i ⟨hx.1, hx.2, hy⟩]
  exact ⟨rfl, rfl⟩
theorem c_Mo_boxOf {d : Nat} {kd : ZK} {m : ZM} {G : GR} {x y a b : Int} (h : MG kd m G) (hx : 0 ≤ x ∧ x < 5) (hy : 0 ≤ y ∧ y < 5) (ha_q : 0 ≤ a ∧ a < 4) (hb_q : 0 ≤ b ∧ b < 4) : CtI (d + 3) M_Mo_boxOf [(2, 78), (0, x), (0, y), (0, a), (0, b)] kd m (qE m (gB G x y a b)) := by
  have r0 := h.s.r0
  have r1_q := h.s.r1
  have r2 := h.s.r2
  have r3 := h.s.r3
  have r4 := h.s.r4
  have r5_q := h.s.r5
  have r7 := h.s.r7
  have r12 := h.s.r12
  have r13 := h.s.r13
  have r15 := h.s.r15
  have r17 := h.s.r17
  have r18 := h.s.r18
  have r19 := h.s.r19
  have r20 := h.s.r20
  have r21 := h.s.r21
  have r22 := h.s.r22
  refine S_Mo_boxOf ?_
  try simp only [r0, r1_q, r2, r3, r4, r5_q, r7, r12, r13, r15, r17, r18, r19, r20, r21, r22]
  refine ⟨h.s.o, ?_⟩
  refine ⟨_, c_Mo_fourOf (by omega) (by omega) (by omega) (by omega), ?_⟩
  rintro _ _ ⟨rfl, rfl⟩
  refine ⟨(by rw [iw_s (by omega) (by omega)]; exact ⟨829, h.s.k79, by omega, by omega⟩), ?_⟩
  rw [iw_s (by omega) (by omega), h.now (by omega) (by omega), gB_i ⟨⟨hx.1, hx.2, hy⟩, ha_q.1, ha_q.2, hb_q⟩]
  exact ⟨rfl, rfl⟩
theorem c_Mo_isWin {d : Nat} {kd : ZK} {m : ZM} {G : GR} {x y a b : Int} (h : MG kd m G) (hx : 0 ≤ x ∧ x < 5) (hy : 0 ≤ y ∧ y < 5) (ha_q : 0 ≤ a ∧ a < 4) (hb_q : 0 ≤ b ∧ b < 4) : CtI (d + 3) M_Mo_isWin [(2, 78), (0, x), (0, y), (0, a), (0, b)] kd m (qE m (zb (gV G x y a b = 1))) := by
  have r0 := h.s.r0
  have r1_q := h.s.r1
  have r2 := h.s.r2
  have r3 := h.s.r3
  have r4 := h.s.r4
  have r5_q := h.s.r5
  have r7 := h.s.r7
  have r12 := h.s.r12
  have r13 := h.s.r13
  have r15 := h.s.r15
  have r17 := h.s.r17
  have r18 := h.s.r18
  have r19 := h.s.r19
  have r20 := h.s.r20
  have r21 := h.s.r21
  have r22 := h.s.r22
  have e0_q : m 79 (iw (29 + (4 * (4 * (5 * x + y) + a) + b))) = gV G x y a b := by rw [iw_s (by omega) (by omega), h.now (by omega) (by omega), gV_i ⟨⟨hx.1, hx.2, hy⟩, ha_q.1, ha_q.2, hb_q⟩]
  refine S_Mo_isWin ?_
  try simp only [r0, r1_q, r2, r3, r4, r5_q, r7, r12, r13, r15, r17, r18, r19, r20, r21, r22]
  refine ⟨h.s.o, ?_⟩
  refine ⟨_, c_Mo_fourOf (by omega) (by omega) (by omega) (by omega), ?_⟩
  rintro _ _ ⟨rfl, rfl⟩
  refine ⟨(by rw [iw_s (by omega) (by omega)]; exact ⟨829, h.s.k79, by omega, by omega⟩), ?_⟩
  refine ⟨fun qc_1 => ?_, fun qc_1 => ?_⟩
  · rw [e0_q] at qc_1
    first | exact ⟨(zbF (by omega)), rfl⟩ | exact ⟨(zbT (by omega)), rfl⟩
  · rw [e0_q] at qc_1
    first | exact ⟨(zbF (by omega)), rfl⟩ | exact ⟨(zbT (by omega)), rfl⟩
theorem c_Mo_seenV {d : Nat} {kd : ZK} {m : ZM} {G : GR} {p q o a b : Int} (h : MG kd m G) (hq : 0 ≤ q ∧ q < 5) (ho : 0 ≤ o ∧ o < 5) (ha_q : 0 ≤ a ∧ a < 4) (hb_q : 0 ≤ b ∧ b < 4) : CtI (d + 3) M_Mo_seen [(2, 78), (0, p), (0, 29), (0, q), (0, o), (0, a), (0, b)] kd m (qE m (pV G p q o a b)) := by
  have r0 := h.s.r0
  have r1_q := h.s.r1
  have r2 := h.s.r2
  have r3 := h.s.r3
  have r4 := h.s.r4
  have r5_q := h.s.r5
  have r7 := h.s.r7
  have r12 := h.s.r12
  have r13 := h.s.r13
  have r15 := h.s.r15
  have r17 := h.s.r17
  have r18 := h.s.r18
  have r19 := h.s.r19
  have r20 := h.s.r20
  have r21 := h.s.r21
  have r22 := h.s.r22
  refine S_Mo_seen ?_
  try simp only [r0, r1_q, r2, r3, r4, r5_q, r7, r12, r13, r15, r17, r18, r19, r20, r21, r22]
  refine ⟨h.s.o, ?_⟩
  refine ⟨fun qc_1 => ?_, fun qc_1 => ?_⟩
  · skip
    refine ⟨_, c_Mo_fourOf (by omega) (by omega) (by omega) (by omega), ?_⟩
    rintro _ _ ⟨rfl, rfl⟩
    refine ⟨(by rw [iw_s (by omega) (by omega)]; exact ⟨829, h.s.k79, by omega, by omega⟩), ?_⟩
    rw [iw_s (by omega) (by omega), h.now (by omega) (by omega), pV, if_neg (by assumption), gV_i ⟨⟨ho.1, ho.2, hq⟩, hb_q.1, hb_q.2, ha_q⟩]
    exact ⟨rfl, rfl⟩
  · skip
    refine ⟨_, c_Mo_fourOf (by omega) (by omega) (by omega) (by omega), ?_⟩
    rintro _ _ ⟨rfl, rfl⟩
    refine ⟨(by rw [iw_s (by omega) (by omega)]; exact ⟨829, h.s.k79, by omega, by omega⟩), ?_⟩
    rw [iw_s (by omega) (by omega), h.now (by omega) (by omega), pV, if_pos (by omega), gV_i ⟨⟨hq.1, hq.2, ho⟩, ha_q.1, ha_q.2, hb_q⟩]
    exact ⟨rfl, rfl⟩
theorem c_Mo_seenB {d : Nat} {kd : ZK} {m : ZM} {G : GR} {p q o a b : Int} (h : MG kd m G) (hq : 0 ≤ q ∧ q < 5) (ho : 0 ≤ o ∧ o < 5) (ha_q : 0 ≤ a ∧ a < 4) (hb_q : 0 ≤ b ∧ b < 4) : CtI (d + 3) M_Mo_seen [(2, 78), (0, p), (0, 429), (0, q), (0, o), (0, a), (0, b)] kd m (qE m (pB G p q o a b)) := by
  have r0 := h.s.r0
  have r1_q := h.s.r1
  have r2 := h.s.r2
  have r3 := h.s.r3
  have r4 := h.s.r4
  have r5_q := h.s.r5
  have r7 := h.s.r7
  have r12 := h.s.r12
  have r13 := h.s.r13
  have r15 := h.s.r15
  have r17 := h.s.r17
  have r18 := h.s.r18
  have r19 := h.s.r19
  have r20 := h.s.r20
  have r21 := h.s.r21
  have r22 := h.s.r22
  refine S_Mo_seen ?_
  try simp only [r0, r1_q, r2, r3, r4, r5_q, r7, r12, r13, r15, r17, r18, r19, r20, r21, r22]
  refine ⟨h.s.o, ?_⟩
  refine ⟨fun qc_1 => ?_, fun qc_1 => ?_⟩
  · skip
    refine ⟨_, c_Mo_fourOf (by omega) (by omega) (by omega) (by omega), ?_⟩
    rintro _ _ ⟨rfl, rfl⟩
    refine ⟨(by rw [iw_s (by omega) (by omega)]; exact ⟨829, h.s.k79, by omega, by omega⟩), ?_⟩
    rw [iw_s (by omega) (by omega), h.now (by omega) (by omega), pB, if_neg (by assumption), gB_i ⟨⟨ho.1, ho.2, hq⟩, hb_q.1, hb_q.2, ha_q⟩]
    exact ⟨rfl, rfl⟩
  · skip
    refine ⟨_, c_Mo_fourOf (by omega) (by omega) (by omega) (by omega), ?_⟩
    rintro _ _ ⟨rfl, rfl⟩
    refine ⟨(by rw [iw_s (by omega) (by omega)]; exact ⟨829, h.s.k79, by omega, by omega⟩), ?_⟩
    rw [iw_s (by omega) (by omega), h.now (by omega) (by omega), pB, if_pos (by omega), gB_i ⟨⟨hq.1, hq.2, ho⟩, ha_q.1, ha_q.2, hb_q⟩]
    exact ⟨rfl, rfl⟩
theorem c_Mo_weightSeen {d : Nat} {kd : ZK} {m : ZM} {G : GR} {p q o : Int} (h : MG kd m G) (hq : 0 ≤ q ∧ q < 5) (ho : 0 ≤ o ∧ o < 5) : CtI (d + 3) M_Mo_weightSeen [(2, 78), (0, p), (0, q), (0, o)] kd m (qE m (pW G p q o)) := by
  have r0 := h.s.r0
  have r1_q := h.s.r1
  have r2 := h.s.r2
  have r3 := h.s.r3
  have r4 := h.s.r4
  have r5_q := h.s.r5
  have r7 := h.s.r7
  have r12 := h.s.r12
  have r13 := h.s.r13
  have r15 := h.s.r15
  have r17 := h.s.r17
  have r18 := h.s.r18
  have r19 := h.s.r19
  have r20 := h.s.r20
  have r21 := h.s.r21
  have r22 := h.s.r22
  refine S_Mo_weightSeen ?_
  try simp only [r0, r1_q, r2, r3, r4, r5_q, r7, r12, r13, r15, r17, r18, r19, r20, r21, r22]
  refine ⟨fun qc_1 => ?_, fun qc_1 => ?_⟩
  · skip
    refine ⟨h.s.o, _, c_Mo_weightOf h (by omega) (by omega), ?_⟩
    rintro _ _ ⟨rfl, rfl⟩
    exact ⟨(if_neg (by assumption)).symm, rfl⟩
  · skip
    refine ⟨h.s.o, _, c_Mo_weightOf h (by omega) (by omega), ?_⟩
    rintro _ _ ⟨rfl, rfl⟩
    exact ⟨(if_pos (by omega)).symm, rfl⟩
def rM (p : Int) : Int := if p = 0 then 86 else 87
theorem rM_in (p : Int) : rM p = 86 ∨ rM p = 87 := by unfold rM; split <;> simp
theorem rM_o {p : Int} (hp : p = 0 ∨ p = 1) : rM p ≠ rM (1 - p) := by rcases hp with q | q <;> subst q <;> decide
theorem MS.kr {kd : ZK} {m : ZM} (h : MS kd m) (p : Int) : zarr kd (rM p) 0 5 := by
  unfold rM; split
  · exact h.k86
  · exact h.k87
theorem c_Mo_rowOf {d : Nat} {kd : ZK} {m : ZM} {G : GR} {p : Int} (h : MG kd m G) : CtR (d + 1) M_Mo_rowOf [(2, 78), (0, p)] kd m (qE m (rM p)) := by
  have r0 := h.s.r0
  have r1_q := h.s.r1
  have r2 := h.s.r2
  have r3 := h.s.r3
  have r4 := h.s.r4
  have r5_q := h.s.r5
  have r7 := h.s.r7
  have r12 := h.s.r12
  have r13 := h.s.r13
  have r15 := h.s.r15
  have r17 := h.s.r17
  have r18 := h.s.r18
  have r19 := h.s.r19
  have r20 := h.s.r20
  have r21 := h.s.r21
  have r22 := h.s.r22
  refine S_Mo_rowOf ?_
  try simp only [r0, r1_q, r2, r3, r4, r5_q, r7, r12, r13, r15, r17, r18, r19, r20, r21, r22]
  refine ⟨fun qc_1 => ?_, fun qc_1 => ?_⟩
  · skip
    refine ⟨h.s.o, ?_⟩
    first | exact ⟨(if_neg (by assumption)).symm, rfl⟩ | exact ⟨(if_pos (by omega)).symm, rfl⟩
  · skip
    refine ⟨h.s.o, ?_⟩
    first | exact ⟨(if_neg (by assumption)).symm, rfl⟩ | exact ⟨(if_pos (by omega)).symm, rfl⟩
theorem zfour {f : Int → Int} : zsum 400 f = zsum 5 (fun x => zsum 5 (fun y => zsum 4 (fun a => zsum 4 (fun b => f (4 * (4 * (5 * x + y) + a) + b))))) := by
  rw [show (400 : Nat) = 100 * 4 from rfl, zsum_lines, show (100 : Nat) = 25 * 4 from rfl, zsum_lines, show (25 : Nat) = 5 * 5 from rfl, zsum_lines]
  refine zsum_congr _ (fun x _ _ => zsum_congr _ (fun y _ _ => zsum_congr _ (fun a _ _ => zsum_congr _ (fun b _ _ => ?_))))
  congr 1
  omega
theorem ztwo {f : Int → Int} : zsum 25 f = zsum 5 (fun x => zsum 5 (fun y => f (5 * x + y))) := by
  rw [show (25 : Nat) = 5 * 5 from rfl, zsum_lines]
  refine zsum_congr _ (fun x _ _ => zsum_congr _ (fun y _ _ => ?_))
  congr 1
  omega
theorem zcutN {f : Int → Int} {n : Int} {k : Nat} (h : n ≤ k) (hz : ∀ i : Int, n ≤ i → i < k → f i = 0) : zsum k f = zsum n.toNat f := zsum_pad (by omega) (fun i h0 h1 => hz i (by omega) h1)
theorem all_W {G : GR} (ho : GOK G) : zsum 25 (fun j => G (4 + j)) = sW G := by
  have h0 := ho.1
  have hz := ho.2.2.2.1
  rw [ztwo]
  have e : ∀ x : Int, 0 ≤ x → x < ((5 : Nat) : Int) → zsum 5 (fun y => G (4 + (5 * x + y))) = zsum (G 1).toNat (fun y => gW G x y) := fun x x0_q x1_q => by
    rw [zsum_congr 5 (fun y y0 y1 => (gW_i (G := G) (x := x) (y := y) ⟨x0_q, by omega, y0, by omega⟩).symm)]
    exact zcutN (by omega) (fun y y0 _ => hz x y (Or.inr y0))
  rw [zsum_congr 5 e, zcutN (n := G 0) (by omega) (fun x x0_q _ => zsum_zero _ (fun y _ _ => hz x y (Or.inl x0_q)))]
  rfl
theorem all_V {G : GR} (ho : GOK G) : zsum 400 (fun j => G (29 + j)) = sV G := by
  have h0 := ho.1
  have hz := ho.2.2.2.2
  rw [zfour]
  have e : ∀ x y : Int, 0 ≤ x → x < ((5 : Nat) : Int) → 0 ≤ y → y < ((5 : Nat) : Int) → zsum 4 (fun a => zsum 4 (fun b => G (29 + (4 * (4 * (5 * x + y) + a) + b)))) = sVat G x y := fun x y x0_q x1_q y0 y1 => by
    have e2_q : ∀ a : Int, 0 ≤ a → a < ((4 : Nat) : Int) → zsum 4 (fun b => G (29 + (4 * (4 * (5 * x + y) + a) + b))) = zsum (G 3).toNat (fun b => gV G x y a b) := fun a a0_q a1_q => by
      rw [zsum_congr 4 (fun b b0 b1 => (gV_i (G := G) (x := x) (y := y) (a := a) (b := b) ⟨⟨x0_q, by omega, y0, by omega⟩, a0_q, by omega, b0, by omega⟩).symm)]
      exact zcutN (by omega) (fun b b0 _ => (hz x y a b (Or.inr (Or.inr (Or.inr b0)))).1)
    rw [zsum_congr 4 e2_q, zcutN (n := G 2) (by omega) (fun a a0_q _ => zsum_zero _ (fun b _ _ => (hz x y a b (Or.inr (Or.inr (Or.inl a0_q)))).1))]
    rfl
  have hzz : ∀ x y, G 0 ≤ x ∨ G 1 ≤ y → sVat G x y = 0 := fun x y hh => zsum_zero _ (fun a _ _ => zsum_zero _ (fun b _ _ => (hz x y a b (by omega)).1))
  rw [zsum_congr 5 (fun x x0_q x1_q => zsum_congr 5 (fun y y0 y1 => e x y x0_q x1_q y0 y1))]
  rw [zsum_congr 5 (fun x _ _ => zcutN (n := G 1) (k := 5) (by omega) (fun y y0 _ => hzz x y (Or.inr y0)))]
  rw [zcutN (n := G 0) (by omega) (fun x x0_q _ => zsum_zero _ (fun y _ _ => hzz x y (Or.inl x0_q)))]
  rfl
/-- the four numbers of a place -/
theorem fours {j : Int} (h0 : 0 ≤ j) (h1 : j < 400) : j = 4 * (4 * (5 * (j / 80) + j / 16 % 5) + j / 4 % 4) + j % 4 ∧ (0 ≤ j / 80 ∧ j / 80 < 5) ∧ (0 ≤ j / 16 % 5 ∧ j / 16 % 5 < 5) ∧ (0 ≤ j / 4 % 4 ∧ j / 4 % 4 < 4) ∧ (0 ≤ j % 4 ∧ j % 4 < 4) := by omega
theorem G_V {G : GR} {j : Int} (h0 : 0 ≤ j) (h1 : j < 400) : G (29 + j) = gV G (j / 80) (j / 16 % 5) (j / 4 % 4) (j % 4) ∧ G (429 + j) = gB G (j / 80) (j / 16 % 5) (j / 4 % 4) (j % 4) := by
  obtain ⟨e, x, y, a, b⟩ := fours h0 h1
  rw [gV_i ⟨⟨x.1, x.2, y⟩, a.1, a.2, b⟩, gB_i ⟨⟨x.1, x.2, y⟩, a.1, a.2, b⟩, ← e]
  exact ⟨rfl, rfl⟩
theorem G_W {G : GR} {j : Int} (h0 : 0 ≤ j) (h1 : j < 25) : G (4 + j) = gW G (j / 5) (j % 5) := by
  rw [gW_i ⟨by omega, by omega, by omega, by omega⟩]
  congr 1
  omega
theorem c_Mo_allWeights {d : Nat} {kd : ZK} {m : ZM} {G : GR} (h : MG kd m G) : CtI (d + 1) M_Mo_allWeights [(2, 78)] kd m (qE m (sW G)) := by
  have r0 := h.s.r0
  have r1_q := h.s.r1
  have r2 := h.s.r2
  have r3 := h.s.r3
  have r4 := h.s.r4
  have r5_q := h.s.r5
  have r7 := h.s.r7
  have r12 := h.s.r12
  have r13 := h.s.r13
  have r15 := h.s.r15
  have r17 := h.s.r17
  have r18 := h.s.r18
  have r19 := h.s.r19
  have r20 := h.s.r20
  have r21 := h.s.r21
  have r22 := h.s.r22
  have qL0 := zfor1 (25) (fun (k : Int) (t : Int) => Ev (d + 1) M_Mo_allWeights 0 0 4 [(2, 78), (0, t), (0, 4 + k)] [] kd m (zqI kd (qE m (sW G)))) (fun (k : Int) (t : Int) => 0 ≤ k ∧ t = zsum k.toNat (fun j => G (4 + j)) ∧ 0 ≤ t ∧ t ≤ 9 * k) (by
    intro k t hb_q hI0 qKL0
    obtain ⟨hk0, ht, ht0, ht1⟩ := hI0
    refine T_Mo_allWeights_4 ?_
    try simp only [r0, r1_q, r2, r3, r4, r5_q, r7, r12, r13, r15, r17, r18, r19, r20, r21, r22]
    refine ⟨fun qc_1 => ?_, fun qc_1 => ?_⟩
    · skip
      rw [show k = 25 by omega] at ht
      exact ⟨by rw [ht]; exact all_W h.ok, rfl⟩
    · skip
      refine ⟨h.s.o, ⟨829, h.s.k79, by omega, by omega⟩, ?_⟩
      have hw := G_W (G := G) (j := k) (by omega) (by omega)
      have hv := h.ok.gW (k / 5) (k % 5)
      rw [h.now (by omega) (by omega), iw_s (x := t + G (4 + k)) (by omega) (by omega), iw_s (by omega) (by omega), show 4 + k + 1 = 4 + (k + 1) by omega]
      exact qKL0 _ (by omega) ⟨by omega, by rw [zsum_1 hk0, ← ht], by omega, by omega⟩)
  refine S_Mo_allWeights ?_
  exact qL0 0 0 (by decide) ⟨by decide, rfl, by decide, by decide⟩
theorem c_Mo_winsMany {d : Nat} {kd : ZK} {m : ZM} {G : GR} (h : MG kd m G) : CtI (d + 1) M_Mo_winsMany [(2, 78)] kd m (qE m (sV G)) := by
  have r0 := h.s.r0
  have r1_q := h.s.r1
  have r2 := h.s.r2
  have r3 := h.s.r3
  have r4 := h.s.r4
  have r5_q := h.s.r5
  have r7 := h.s.r7
  have r12 := h.s.r12
  have r13 := h.s.r13
  have r15 := h.s.r15
  have r17 := h.s.r17
  have r18 := h.s.r18
  have r19 := h.s.r19
  have r20 := h.s.r20
  have r21 := h.s.r21
  have r22 := h.s.r22
  have qL0 := zfor1 (400) (fun (k : Int) (t : Int) => Ev (d + 1) M_Mo_winsMany 0 0 5 [(2, 78), (0, t), (0, 29 + k)] [] kd m (zqI kd (qE m (sV G)))) (fun (k : Int) (t : Int) => 0 ≤ k ∧ t = zsum k.toNat (fun j => G (29 + j)) ∧ 0 ≤ t ∧ t ≤ 1 * k) (by
    intro k t hb_q hI0 qKL0
    obtain ⟨hk0, ht, ht0, ht1⟩ := hI0
    refine T_Mo_winsMany_5 ?_
    try simp only [r0, r1_q, r2, r3, r4, r5_q, r7, r12, r13, r15, r17, r18, r19, r20, r21, r22]
    refine ⟨fun qc_1 => ?_, fun qc_1 => ?_⟩
    · skip
      rw [show k = 400 by omega] at ht
      exact ⟨by rw [ht]; exact all_V h.ok, rfl⟩
    · skip
      refine ⟨h.s.o, ⟨829, h.s.k79, by omega, by omega⟩, ?_⟩
      have hw := (G_V (G := G) (j := k) (by omega) (by omega)).1
      have hv := h.ok.gV (k / 80) (k / 16 % 5) (k / 4 % 4) (k % 4)
      rw [h.now (by omega) (by omega), iw_s (x := t + G (29 + k)) (by omega) (by omega), iw_s (by omega) (by omega), show 29 + k + 1 = 29 + (k + 1) by omega]
      exact qKL0 _ (by omega) ⟨by omega, by rw [zsum_1 hk0, ← ht], by omega, by omega⟩)
  refine S_Mo_winsMany ?_
  exact qL0 0 0 (by decide) ⟨by decide, rfl, by decide, by decide⟩
