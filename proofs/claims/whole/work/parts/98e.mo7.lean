/-! THE MODEL, seventh: answers by a formula; boxes, means, squares, orders -/
theorem c_Mo_wins {d : Nat} {kd : ZK} {m : ZM} {G : GR} (h : MG kd m G) {x y a b : Int} : CtI (d + 5) M_Mo_wins [(2, 78), (0, x), (0, y), (0, a), (0, b)] kd m (fun zz m1_q => (zz = aWins G x y a b) ∧ MF m m1_q) := by
  have r0 := h.s.r0
  have r1_q := h.s.r1
  have r2 := h.s.r2
  have r3 := h.s.r3
  have r4 := h.s.r4
  have r5_q := h.s.r5
  have r7 := h.s.r7
  have r12 := h.s.r12
  have r13 := h.s.r13
  have r15 := h.s.r15
  have r17 := h.s.r17
  have r18 := h.s.r18
  have r19 := h.s.r19
  have r20 := h.s.r20
  have r21 := h.s.r21
  have r22 := h.s.r22
  have hok := h.ok.1
  have hq0 : nQ G 0 = G 0 := rfl
  have hq1 : nQ G 1 = G 1 := rfl
  have ha0 : nA G 0 = G 2 := rfl
  have ha1 : nA G 1 = G 3 := rfl
  refine S_Mo_wins ?_
  try simp only [r0, r1_q, r2, r3, r4, r5_q, r7, r12, r13, r15, r17, r18, r19, r20, r21, r22]
  refine ⟨h.s.o, _, c_Mo_areFour h, ?_⟩
  rintro _ _ ⟨rfl, rfl⟩
  try simp only [r0, r1_q, r2, r3, r4, r5_q, r7, r12, r13, r15, r17, r18, r19, r20, r21, r22]
  refine ⟨fun qc_1 => ?_, fun qc_1 => ?_⟩
  · replace qc_1 := zb_eq0.1 qc_1
    refine ⟨?_, MF.rf⟩
    rw [aWins, zite_f qc_1]
  · replace qc_1 := zb_ne0.1 qc_1
    refine ⟨h.s.o, ?_⟩
    refine ⟨_, c_Mo_fourOf (by omega) (by omega) (by omega) (by omega), ?_⟩
    rintro _ _ ⟨rfl, rfl⟩
    try simp only [r0, r1_q, r2, r3, r4, r5_q, r7, r12, r13, r15, r17, r18, r19, r20, r21, r22]
    refine ⟨(by rw [iw_s (by omega) (by omega)]; exact ⟨829, h.s.k79, by omega, by omega⟩), ?_⟩
    refine ⟨?_, MF.rf⟩
    rw [aWins, zite_t qc_1]
    rw [iw_s (by omega) (by omega), h.now (by omega) (by omega), gV_i ⟨⟨by omega, by omega, by omega, by omega⟩, by omega, by omega, by omega, by omega⟩]
theorem c_Mo_weight {d : Nat} {kd : ZK} {m : ZM} {G : GR} (h : MG kd m G) {x y : Int} : CtI (d + 4) M_Mo_weight [(2, 78), (0, x), (0, y)] kd m (fun zz m1_q => (zz = aWeight G x y) ∧ MF m m1_q) := by
  have r0 := h.s.r0
  have r1_q := h.s.r1
  have r2 := h.s.r2
  have r3 := h.s.r3
  have r4 := h.s.r4
  have r5_q := h.s.r5
  have r7 := h.s.r7
  have r12 := h.s.r12
  have r13 := h.s.r13
  have r15 := h.s.r15
  have r17 := h.s.r17
  have r18 := h.s.r18
  have r19 := h.s.r19
  have r20 := h.s.r20
  have r21 := h.s.r21
  have r22 := h.s.r22
  have hok := h.ok.1
  have hq0 : nQ G 0 = G 0 := rfl
  have hq1 : nQ G 1 = G 1 := rfl
  have ha0 : nA G 0 = G 2 := rfl
  have ha1 : nA G 1 = G 3 := rfl
  refine S_Mo_weight ?_
  try simp only [r0, r1_q, r2, r3, r4, r5_q, r7, r12, r13, r15, r17, r18, r19, r20, r21, r22]
  refine ⟨h.s.o, _, c_Mo_areTwo h, ?_⟩
  rintro _ _ ⟨rfl, rfl⟩
  try simp only [r0, r1_q, r2, r3, r4, r5_q, r7, r12, r13, r15, r17, r18, r19, r20, r21, r22]
  refine ⟨fun qc_1 => ?_, fun qc_1 => ?_⟩
  · replace qc_1 := zb_eq0.1 qc_1
    refine ⟨?_, MF.rf⟩
    rw [aWeight, zite_f qc_1]
  · replace qc_1 := zb_ne0.1 qc_1
    refine ⟨h.s.o, _, c_Mo_weightOf h (by omega) (by omega), ?_⟩
    rintro _ _ ⟨rfl, rfl⟩
    try simp only [r0, r1_q, r2, r3, r4, r5_q, r7, r12, r13, r15, r17, r18, r19, r20, r21, r22]
    refine ⟨?_, MF.rf⟩
    rw [aWeight, zite_t qc_1]
theorem c_Mo_sign_2 {d : Nat} {kd : ZK} {m : ZM} {G : GR} (h : MG kd m G) {x y : Int} : CtI (d + 6) M_Mo_sign_2 [(2, 78), (0, x), (0, y)] kd m (fun zz m1_q => (zz = aSign G x y) ∧ MF m m1_q) := by
  have r0 := h.s.r0
  have r1_q := h.s.r1
  have r2 := h.s.r2
  have r3 := h.s.r3
  have r4 := h.s.r4
  have r5_q := h.s.r5
  have r7 := h.s.r7
  have r12 := h.s.r12
  have r13 := h.s.r13
  have r15 := h.s.r15
  have r17 := h.s.r17
  have r18 := h.s.r18
  have r19 := h.s.r19
  have r20 := h.s.r20
  have r21 := h.s.r21
  have r22 := h.s.r22
  have hok := h.ok.1
  have hq0 : nQ G 0 = G 0 := rfl
  have hq1 : nQ G 1 = G 1 := rfl
  have ha0 : nA G 0 = G 2 := rfl
  have ha1 : nA G 1 = G 3 := rfl
  refine S_Mo_sign_2 ?_
  try simp only [r0, r1_q, r2, r3, r4, r5_q, r7, r12, r13, r15, r17, r18, r19, r20, r21, r22]
  refine ⟨h.s.o, _, c_Mo_areTwo h, ?_⟩
  rintro _ _ ⟨rfl, rfl⟩
  try simp only [r0, r1_q, r2, r3, r4, r5_q, r7, r12, r13, r15, r17, r18, r19, r20, r21, r22]
  refine ⟨fun qc_1 => ?_, fun qc_1 => ?_⟩
  · replace qc_1 := zb_eq0.1 qc_1
    refine ⟨?_, MF.rf⟩
    rw [aSign, zite_f qc_1]
  · replace qc_1 := zb_ne0.1 qc_1
    refine ⟨h.s.o, _, c_Mo_signOf h (by omega) (by omega), ?_⟩
    rintro _ _ ⟨rfl, rfl⟩
    try simp only [r0, r1_q, r2, r3, r4, r5_q, r7, r12, r13, r15, r17, r18, r19, r20, r21, r22]
    refine ⟨?_, MF.rf⟩
    rw [aSign, zite_t qc_1]
theorem c_Mo_marginal {d : Nat} {kd : ZK} {m : ZM} {G : GR} (h : MG kd m G) {p q a o : Int} : CtI (d + 5) M_Mo_marginal [(2, 78), (0, p), (0, q), (0, a), (0, o)] kd m (fun zz m1_q => (zz = aMarginal G p q a o) ∧ MF m m1_q) := by
  have r0 := h.s.r0
  have r1_q := h.s.r1
  have r2 := h.s.r2
  have r3 := h.s.r3
  have r4 := h.s.r4
  have r5_q := h.s.r5
  have r7 := h.s.r7
  have r12 := h.s.r12
  have r13 := h.s.r13
  have r15 := h.s.r15
  have r17 := h.s.r17
  have r18 := h.s.r18
  have r19 := h.s.r19
  have r20 := h.s.r20
  have r21 := h.s.r21
  have r22 := h.s.r22
  have hok := h.ok.1
  have hq0 : nQ G 0 = G 0 := rfl
  have hq1 : nQ G 1 = G 1 := rfl
  have ha0 : nA G 0 = G 2 := rfl
  have ha1 : nA G 1 = G 3 := rfl
  refine S_Mo_marginal ?_
  try simp only [r0, r1_q, r2, r3, r4, r5_q, r7, r12, r13, r15, r17, r18, r19, r20, r21, r22]
  refine ⟨_, c_Mo_isPlayer, ?_⟩
  rintro _ _ ⟨rfl, rfl⟩
  try simp only [r0, r1_q, r2, r3, r4, r5_q, r7, r12, r13, r15, r17, r18, r19, r20, r21, r22]
  refine ⟨fun qc_1 => ?_, fun qc_1 => ?_⟩
  · replace qc_1 := zb_eq0.1 qc_1
    refine ⟨?_, MF.rf⟩
    rw [aMarginal, zite_f (fun q => qc_1 q.1)]
  · replace qc_1 := zb_ne0.1 qc_1
    refine ⟨h.s.o, _, c_Mo_isQuestion h qc_1, ?_⟩
    rintro _ _ ⟨rfl, rfl⟩
    try simp only [r0, r1_q, r2, r3, r4, r5_q, r7, r12, r13, r15, r17, r18, r19, r20, r21, r22]
    refine ⟨fun qc_2 => ?_, fun qc_2 => ?_⟩
    · replace qc_2 := zb_eq0.1 qc_2
      refine ⟨?_, MF.rf⟩
      rw [aMarginal, zite_f qc_2]
    · replace qc_2 := zb_ne0.1 qc_2
      refine ⟨h.s.o, _, c_Mo_isAnswer h qc_1, ?_⟩
      rintro _ _ ⟨rfl, rfl⟩
      try simp only [r0, r1_q, r2, r3, r4, r5_q, r7, r12, r13, r15, r17, r18, r19, r20, r21, r22]
      refine ⟨fun qc_3 => ?_, fun qc_3 => ?_⟩
      · replace qc_3 := zb_eq0.1 qc_3
        refine ⟨?_, MF.rf⟩
        rw [aMarginal, zite_t qc_2, zite_f qc_3]
      · replace qc_3 := zb_ne0.1 qc_3
        have n1_q := h.ok.q p
        have n2_q := h.ok.q (1 - p)
        have n3_q := h.ok.a p
        rw [iw_s (x := 1 - p) (by omega) (by omega)]
        refine ⟨h.s.o, _, c_Mo_isQuestion h (by omega), ?_⟩
        rintro _ _ ⟨rfl, rfl⟩
        try simp only [r0, r1_q, r2, r3, r4, r5_q, r7, r12, r13, r15, r17, r18, r19, r20, r21, r22]
        refine ⟨fun qc_4 => ?_, fun qc_4 => ?_⟩
        · replace qc_4 := zb_ne0.1 qc_4
          refine ⟨h.s.o, _, c_Mo_givenAt h (by omega) (by omega) (by omega) (by omega), ?_⟩
          rintro _ _ ⟨rfl, rfl⟩
          try simp only [r0, r1_q, r2, r3, r4, r5_q, r7, r12, r13, r15, r17, r18, r19, r20, r21, r22]
          refine ⟨?_, MF.rf⟩
          rw [aMarginal, zite_t qc_2, zite_t qc_3, zite_t qc_4]
        · replace qc_4 := zb_eq0.1 (Classical.not_not.1 qc_4)
          refine ⟨?_, MF.rf⟩
          rw [aMarginal, zite_t qc_2, zite_t qc_3, zite_f qc_4]
theorem c_Mo_boxed {d : Nat} {kd : ZK} {m : ZM} {G : GR} (h : MG kd m G) {w : Int} : CtI (d + 7) M_Mo_boxed [(2, 78), (0, w)] kd m (fun x m1_q => (pBoxed G w x) ∧ MF m m1_q) := by
  have r0 := h.s.r0
  have r1_q := h.s.r1
  have r2 := h.s.r2
  have r3 := h.s.r3
  have r4 := h.s.r4
  have r5_q := h.s.r5
  have r7 := h.s.r7
  have r12 := h.s.r12
  have r13 := h.s.r13
  have r15 := h.s.r15
  have r17 := h.s.r17
  have r18 := h.s.r18
  have r19 := h.s.r19
  have r20 := h.s.r20
  have r21 := h.s.r21
  have r22 := h.s.r22
  have hok := h.ok.1
  have hq0 : nQ G 0 = G 0 := rfl
  have hq1 : nQ G 1 = G 1 := rfl
  have ha0 : nA G 0 = G 2 := rfl
  have ha1 : nA G 1 = G 3 := rfl
  refine S_Mo_boxed ?_
  try simp only [r0, r1_q, r2, r3, r4, r5_q, r7, r12, r13, r15, r17, r18, r19, r20, r21, r22]
  refine ⟨h.s.o, _, c_Mo_hasGame h, ?_⟩
  rintro _ _ ⟨rfl, rfl⟩
  try simp only [r0, r1_q, r2, r3, r4, r5_q, r7, r12, r13, r15, r17, r18, r19, r20, r21, r22]
  refine ⟨fun qc_1 => ?_, fun qc_1 => ?_⟩
  · replace qc_1 := zb_ne0.1 qc_1
    have hto : 0 < G 0 := qc_1
    refine ⟨fun qc_0 => ?_, fun qc_0 => ?_, fun qc_0 => ?_, fun qc_0 => ?_, fun qc_0 => ?_⟩
    · skip
      refine ⟨(zcs_t qc_1 ?_), MF.rf⟩
      refine ⟨fun e => ?_, fun e => ?_, fun e => ?_, fun e => ?_, fun e => ?_⟩ <;> first | exact absurd e (by omega) | rfl | exact trB
    · skip
      refine ⟨h.s.o, _, c_Mo_boxWorth h, ?_⟩
      rintro _ _ ⟨rfl, rfl⟩
      try simp only [r0, r1_q, r2, r3, r4, r5_q, r7, r12, r13, r15, r17, r18, r19, r20, r21, r22]
      refine ⟨(zcs_t qc_1 ?_), MF.rf⟩
      refine ⟨fun e => ?_, fun e => ?_, fun e => ?_, fun e => ?_, fun e => ?_⟩ <;> first | exact absurd e (by omega) | rfl | exact trB
    · skip
      refine ⟨h.s.o, _, c_Mo_isWhole h, ?_⟩
      rintro _ _ ⟨rfl, rfl⟩
      try simp only [r0, r1_q, r2, r3, r4, r5_q, r7, r12, r13, r15, r17, r18, r19, r20, r21, r22]
      refine ⟨_, c_Mo_truth, ?_⟩
      rintro _ _ ⟨rfl, rfl⟩
      try simp only [r0, r1_q, r2, r3, r4, r5_q, r7, r12, r13, r15, r17, r18, r19, r20, r21, r22]
      refine ⟨(zcs_t qc_1 ?_), MF.rf⟩
      refine ⟨fun e => ?_, fun e => ?_, fun e => ?_, fun e => ?_, fun e => ?_⟩ <;> first | exact absurd e (by omega) | rfl | exact trB
    · skip
      refine ⟨h.s.o, _, c_Mo_signals h (Or.inl rfl) (h.ok.tQ hto (1 - 0)).1, ?_⟩
      rintro _ _ ⟨rfl, rfl⟩
      try simp only [r0, r1_q, r2, r3, r4, r5_q, r7, r12, r13, r15, r17, r18, r19, r20, r21, r22]
      refine ⟨fun qc_2 => ?_, fun qc_2 => ?_⟩
      · replace qc_2 := zb_ne0.1 qc_2
        refine ⟨_, c_Mo_truth, ?_⟩
        rintro _ _ ⟨rfl, rfl⟩
        try simp only [r0, r1_q, r2, r3, r4, r5_q, r7, r12, r13, r15, r17, r18, r19, r20, r21, r22]
        refine ⟨(zcs_t qc_1 ?_), MF.rf⟩
        refine ⟨fun e => ?_, fun e => ?_, fun e => ?_, fun e => ?_, fun e => ?_⟩ <;> first | exact absurd e (by omega) | exact (zbT (Or.inl qc_2))
      · replace qc_2 := zb_eq0.1 (Classical.not_not.1 qc_2)
        refine ⟨h.s.o, _, c_Mo_signals h (Or.inr rfl) (h.ok.tQ hto (1 - 1)).1, ?_⟩
        rintro _ _ ⟨rfl, rfl⟩
        try simp only [r0, r1_q, r2, r3, r4, r5_q, r7, r12, r13, r15, r17, r18, r19, r20, r21, r22]
        refine ⟨fun qc_3 => ?_, fun qc_3 => ?_⟩
        · replace qc_3 := zb_eq0.1 qc_3
          refine ⟨_, c_Mo_truth, ?_⟩
          rintro _ _ ⟨rfl, rfl⟩
          try simp only [r0, r1_q, r2, r3, r4, r5_q, r7, r12, r13, r15, r17, r18, r19, r20, r21, r22]
          refine ⟨(zcs_t qc_1 ?_), MF.rf⟩
          refine ⟨fun e => ?_, fun e => ?_, fun e => ?_, fun e => ?_, fun e => ?_⟩ <;> first | exact absurd e (by omega) | exact (zbT (Or.inr qc_3)) | exact (zbF (fun h => h.elim qc_2 qc_3))
        · replace qc_3 := zb_ne0.1 qc_3
          refine ⟨_, c_Mo_truth, ?_⟩
          rintro _ _ ⟨rfl, rfl⟩
          try simp only [r0, r1_q, r2, r3, r4, r5_q, r7, r12, r13, r15, r17, r18, r19, r20, r21, r22]
          refine ⟨(zcs_t qc_1 ?_), MF.rf⟩
          refine ⟨fun e => ?_, fun e => ?_, fun e => ?_, fun e => ?_, fun e => ?_⟩ <;> first | exact absurd e (by omega) | exact (zbT (Or.inr qc_3)) | exact (zbF (fun h => h.elim qc_2 qc_3))
    · skip
      refine ⟨h.s.o, _, c_Mo_boxWorth h, ?_⟩
      rintro _ _ ⟨rfl, rfl⟩
      try simp only [r0, r1_q, r2, r3, r4, r5_q, r7, r12, r13, r15, r17, r18, r19, r20, r21, r22]
      refine ⟨h.s.o, _, c_Mo_mostWorth h hto, ?_⟩
      rintro x32 m33 ⟨i33, f33⟩
      have F33 : MF m m33 := MF.of (fun c hc_q => f33 c (by omega) (by omega))
      refine ⟨fun qc_4 => ?_, fun qc_4 => ?_⟩
      · skip
        refine ⟨_, c_Mo_truth, ?_⟩
        rintro _ _ ⟨rfl, rfl⟩
        try simp only [r0, r1_q, r2, r3, r4, r5_q, r7, r12, r13, r15, r17, r18, r19, r20, r21, r22]
        refine ⟨(zcs_t qc_1 ?_), F33⟩
        refine ⟨fun e => ?_, fun e => ?_, fun e => ?_, fun e => ?_, fun e => ?_⟩ <;> first | exact absurd e (by omega) | exact ⟨_, i33, (zbF (by have := isMx_in h.ok i33; rw [iw_s (by omega) (by omega)] at qc_4; omega))⟩ | exact ⟨_, i33, (zbT (by have := isMx_in h.ok i33; rw [iw_s (by omega) (by omega)] at qc_4; omega))⟩
      · skip
        refine ⟨_, c_Mo_truth, ?_⟩
        rintro _ _ ⟨rfl, rfl⟩
        try simp only [r0, r1_q, r2, r3, r4, r5_q, r7, r12, r13, r15, r17, r18, r19, r20, r21, r22]
        refine ⟨(zcs_t qc_1 ?_), F33⟩
        refine ⟨fun e => ?_, fun e => ?_, fun e => ?_, fun e => ?_, fun e => ?_⟩ <;> first | exact absurd e (by omega) | exact ⟨_, i33, (zbF (by have := isMx_in h.ok i33; rw [iw_s (by omega) (by omega)] at qc_4; omega))⟩ | exact ⟨_, i33, (zbT (by have := isMx_in h.ok i33; rw [iw_s (by omega) (by omega)] at qc_4; omega))⟩
  · replace qc_1 := zb_eq0.1 (Classical.not_not.1 qc_1)
    refine ⟨(zcs_f qc_1 rfl), MF.rf⟩
theorem c_Mo_common : ∀ (t : Nat) {d : Nat} {kd : ZK} {m : ZM} {a b : Int}, 0 ≤ a → a ≤ 100000 → 0 ≤ b → b ≤ t → t ≤ 1000 → CtL (d + t + 1) M_Mo_common [(1, a), (1, b)] kd m (fun x m1_q => x = (Int.gcd a b : Int) ∧ m = m1_q) := by
  intro t
  induction t with
  | zero =>
    intro d kd m a b ha_q ha2 hb_q hbt _
    have hb0 : b = 0 := by omega
    subst hb0
    refine S_Mo_common ⟨fun qc_1 => absurd (by decide : zcmp 0 0 = 0) qc_1, fun _ => ⟨by rw [Int.gcd_zero]; omega, rfl⟩⟩
  | succ t ih =>
    intro d kd m a b ha_q ha2 hb_q hbt ht
    refine S_Mo_common ⟨fun qc_1 => ?_, fun qc_1 => ?_⟩
    · have hb0 : b ≠ 0 := fun e => qc_1 (by rw [e]; decide)
      have hm1 := Int.emod_nonneg a hb0
      have hm2 := Int.emod_lt_of_pos a (show 0 < b by omega)
      rw [Int.tmod_eq_emod_of_nonneg ha_q]
      refine ⟨hb0, _, ih (a := b) (b := a % b) hb_q (by omega) hm1 (by omega) (by omega), ?_⟩
      rintro x m3_q ⟨hx, rfl⟩
      refine ⟨?_, rfl⟩
      rw [hx, ← Int.gcd_add_mul_left_right b (a % b) (a / b), Int.emod_add_mul_ediv, Int.gcd_comm]
    · have hb0 : b = 0 := Classical.byContradiction fun hn => qc_1 (by unfold zcmp; split <;> (try split) <;> omega)
      rw [hb0, Int.gcd_zero]
      exact ⟨by omega, rfl⟩
theorem sWV_4 {G : GR} : sWV G = zsum (G 0).toNat (fun x => zsum (G 1).toNat (fun y => zsum (G 2).toNat (fun a => zsum (G 3).toNat (fun b => gW G x y * gV G x y a b)))) := by
  unfold sWV
  refine zsum_congr _ (fun x _ _ => zsum_congr _ (fun y _ _ => ?_))
  unfold sVat
  rw [← zsum_mull]
  refine zsum_congr _ (fun a _ _ => ?_)
  rw [← zsum_mull]
theorem c_Mo_mean {d : Nat} {kd : ZK} {m : ZM} {G : GR} {w : Int} (h : MG kd m G) : CtL (d + 21) M_Mo_mean [(2, 78), (0, w)] kd m (fun x m1_q => x = aMean G w ∧ m = m1_q) := by
  have r0 := h.s.r0
  have r1_q := h.s.r1
  have r2 := h.s.r2
  have r3 := h.s.r3
  have r4 := h.s.r4
  have r5_q := h.s.r5
  have r7 := h.s.r7
  have r12 := h.s.r12
  have r13 := h.s.r13
  have r15 := h.s.r15
  have r17 := h.s.r17
  have r18 := h.s.r18
  have r19 := h.s.r19
  have r20 := h.s.r20
  have r21 := h.s.r21
  have r22 := h.s.r22
  have hok := h.ok.1
  have hq0 : nQ G 0 = G 0 := rfl
  have hq1 : nQ G 1 = G 1 := rfl
  have ha0 : nA G 0 = G 2 := rfl
  have ha1 : nA G 1 = G 3 := rfl
  have key : told G → 0 ≤ w → w ≤ 1 → Ev (d + 21) M_Mo_mean 0 0 26 [(2, 78), (0, w), (1, 0), zJ, (0, 0), zJ, zJ, zJ] [] kd m (zqL kd (fun x m1_q => x = aMean G w ∧ m = m1_q)) := by
    intro ht hw0 hw1
    have qL0 := zfor1 (G 0) (fun (x : Int) (t0_q : Int) => Ev (d + 21) M_Mo_mean 0 0 26 [(2, 78), (0, w), (1, t0_q), zJ, (0, x), zJ, zJ, zJ] [] kd m (zqL kd (fun x m1_q => x = aMean G w ∧ m = m1_q))) (fun (x : Int) (t0_q : Int) => 0 ≤ x ∧ t0_q = 0 + zsum x.toNat (fun x => zsum (G 1).toNat (fun y => zsum (G 2).toNat (fun a => zsum (G 3).toNat (fun b => gW G x y * gV G x y a b)))) ∧ 0 ≤ t0_q ∧ t0_q ≤ 0 + 720 * x) (by
      intro x t0_q hb_q hI0 qKL0
      obtain ⟨hx0, he0, hl0, hu0⟩ := hI0
      have qL1 := zfor1 (G 1) (fun (y : Int) (t1_q : Int) => Ev (d + 21) M_Mo_mean 0 0 39 [(2, 78), (0, w), (1, t1_q), zJ, (0, x), (0, y), zJ, zJ] [] kd m (zqL kd (fun x m1_q => x = aMean G w ∧ m = m1_q))) (fun (y : Int) (t1_q : Int) => 0 ≤ y ∧ (x < G 0) ∧ t1_q = t0_q + zsum y.toNat (fun y => zsum (G 2).toNat (fun a => zsum (G 3).toNat (fun b => gW G x y * gV G x y a b))) ∧ t0_q ≤ t1_q ∧ t1_q ≤ t0_q + 144 * y) (by
        intro y t1_q hb_q hI1 qKL1
        obtain ⟨hy0, hr1, he1, hl1, hu1⟩ := hI1
        have qL2 := zfor1 (G 2) (fun (a : Int) (t2_q : Int) => Ev (d + 21) M_Mo_mean 0 0 52 [(2, 78), (0, w), (1, t2_q), zJ, (0, x), (0, y), (0, a), zJ] [] kd m (zqL kd (fun x m1_q => x = aMean G w ∧ m = m1_q))) (fun (a : Int) (t2_q : Int) => 0 ≤ a ∧ (x < G 0 ∧ y < G 1) ∧ t2_q = t1_q + zsum a.toNat (fun a => zsum (G 3).toNat (fun b => gW G x y * gV G x y a b)) ∧ t1_q ≤ t2_q ∧ t2_q ≤ t1_q + 36 * a) (by
          intro a t2_q hb_q hI2 qKL2
          obtain ⟨ha0, hr2, he2, hl2, hu2⟩ := hI2
          have qL3 := zfor1 (G 3) (fun (b : Int) (t3_q : Int) => Ev (d + 21) M_Mo_mean 0 0 65 [(2, 78), (0, w), (1, t3_q), zJ, (0, x), (0, y), (0, a), (0, b)] [] kd m (zqL kd (fun x m1_q => x = aMean G w ∧ m = m1_q))) (fun (b : Int) (t3_q : Int) => 0 ≤ b ∧ (x < G 0 ∧ y < G 1 ∧ a < G 2) ∧ t3_q = t2_q + zsum b.toNat (fun b => gW G x y * gV G x y a b) ∧ t2_q ≤ t3_q ∧ t3_q ≤ t2_q + 9 * b) (by
            intro b t3_q hb_q hI3 qKL3
            obtain ⟨hb0, hr3, he3, hl3, hu3⟩ := hI3
            have hw : 0 ≤ gW G x y * gV G x y a b ∧ gW G x y * gV G x y a b ≤ 9 := zmul_in (A := 9) (B := 1) (h.ok.gW x y) (h.ok.gV x y a b)
            refine T_Mo_mean_65 ?_
            try simp only [r0, r1_q, r2, r3, r4, r5_q, r7, r12, r13, r15, r17, r18, r19, r20, r21, r22]
            refine ⟨h.s.o, _, c_Mo_answers h (Or.inr rfl), ?_⟩
            rintro _ _ ⟨rfl, rfl⟩
            try simp only [r0, r1_q, r2, r3, r4, r5_q, r7, r12, r13, r15, r17, r18, r19, r20, r21, r22]
            refine ⟨fun qc_1 => ?_, fun qc_1 => ?_⟩
            · skip
              rw [iw_s (x := a + 1) (by omega) (by omega)]
              refine qKL2 t3_q (by omega) ⟨by omega, by omega, ?_, by omega, by omega⟩
              rw [zsum_1 ha0, he3, show b = G 3 by omega, he2]
              omega
            · skip
              refine ⟨h.s.o, _, c_Mo_isWin h (by omega) (by omega) (by omega) (by omega), ?_⟩
              rintro _ _ ⟨rfl, rfl⟩
              try simp only [r0, r1_q, r2, r3, r4, r5_q, r7, r12, r13, r15, r17, r18, r19, r20, r21, r22]
              refine ⟨fun qc_2 => ?_, fun qc_2 => ?_⟩
              · skip
                rw [iw_s (x := b + 1) (by omega) (by omega)]
                first | (have hv : gW G x y * gV G x y a b = 0 := (by have q1_q := h.ok.gV x y a b; have q2_q := zb_eq0.1 qc_2; have q3_q : gV G x y a b = 0 := (by omega); rw [q3_q, Int.mul_zero]); rw [lw_s (by omega) (by omega)]; exact qKL3 _ (by omega) ⟨by omega, by omega, by rw [zsum_1 hb0, he3, hv]; omega, by omega, by omega⟩) | (have hv : gW G x y * gV G x y a b = gW G x y := (by rw [zb_ne0.1 qc_2, Int.mul_one]); rw [lw_s (by omega) (by omega)]; exact qKL3 _ (by omega) ⟨by omega, by omega, by rw [zsum_1 hb0, he3, hv]; omega, by omega, by omega⟩)
              · skip
                refine ⟨h.s.o, _, c_Mo_weightOf h (by omega) (by omega), ?_⟩
                rintro _ _ ⟨rfl, rfl⟩
                try simp only [r0, r1_q, r2, r3, r4, r5_q, r7, r12, r13, r15, r17, r18, r19, r20, r21, r22]
                rw [iw_s (x := b + 1) (by omega) (by omega)]
                first | (have hv : gW G x y * gV G x y a b = 0 := (by have q1_q := h.ok.gV x y a b; have q2_q := zb_eq0.1 qc_2; have q3_q : gV G x y a b = 0 := (by omega); rw [q3_q, Int.mul_zero]); rw [lw_s (by omega) (by omega)]; exact qKL3 _ (by omega) ⟨by omega, by omega, by rw [zsum_1 hb0, he3, hv]; omega, by omega, by omega⟩) | (have hv : gW G x y * gV G x y a b = gW G x y := (by rw [zb_ne0.1 qc_2, Int.mul_one]); rw [lw_s (by omega) (by omega)]; exact qKL3 _ (by omega) ⟨by omega, by omega, by rw [zsum_1 hb0, he3, hv]; omega, by omega, by omega⟩))
          refine T_Mo_mean_52 ?_
          try simp only [r0, r1_q, r2, r3, r4, r5_q, r7, r12, r13, r15, r17, r18, r19, r20, r21, r22]
          refine ⟨h.s.o, _, c_Mo_answers h (Or.inl rfl), ?_⟩
          rintro _ _ ⟨rfl, rfl⟩
          try simp only [r0, r1_q, r2, r3, r4, r5_q, r7, r12, r13, r15, r17, r18, r19, r20, r21, r22]
          refine ⟨fun qc_1 => ?_, fun qc_1 => ?_⟩
          · skip
            rw [iw_s (x := y + 1) (by omega) (by omega)]
            refine qKL1 t2_q (by omega) ⟨by omega, by omega, ?_, by omega, by omega⟩
            rw [zsum_1 hy0, he2, show a = G 2 by omega, he1]
            omega
          · skip
            exact qL3 0 t2_q (by omega) ⟨by decide, by omega, by rw [zsum_0]; omega, by omega, by omega⟩)
        refine T_Mo_mean_39 ?_
        try simp only [r0, r1_q, r2, r3, r4, r5_q, r7, r12, r13, r15, r17, r18, r19, r20, r21, r22]
        refine ⟨h.s.o, _, c_Mo_questions h (Or.inr rfl), ?_⟩
        rintro _ _ ⟨rfl, rfl⟩
        try simp only [r0, r1_q, r2, r3, r4, r5_q, r7, r12, r13, r15, r17, r18, r19, r20, r21, r22]
        refine ⟨fun qc_1 => ?_, fun qc_1 => ?_⟩
        · skip
          rw [iw_s (x := x + 1) (by omega) (by omega)]
          refine qKL0 t1_q (by omega) ⟨by omega, ?_, by omega, by omega⟩
          rw [zsum_1 hx0, he1, show y = G 1 by omega, he0]
          omega
        · skip
          exact qL2 0 t1_q (by omega) ⟨by decide, by omega, by rw [zsum_0]; omega, by omega, by omega⟩)
      refine T_Mo_mean_26 ?_
      try simp only [r0, r1_q, r2, r3, r4, r5_q, r7, r12, r13, r15, r17, r18, r19, r20, r21, r22]
      refine ⟨h.s.o, _, c_Mo_questions h (Or.inl rfl), ?_⟩
      rintro _ _ ⟨rfl, rfl⟩
      try simp only [r0, r1_q, r2, r3, r4, r5_q, r7, r12, r13, r15, r17, r18, r19, r20, r21, r22]
      refine ⟨fun qc_1 => ?_, fun qc_1 => ?_⟩
      · skip
        refine ⟨h.s.o, _, c_Mo_answers h (Or.inl rfl), ?_⟩
        rintro _ _ ⟨rfl, rfl⟩
        try simp only [r0, r1_q, r2, r3, r4, r5_q, r7, r12, r13, r15, r17, r18, r19, r20, r21, r22]
        
        refine ⟨h.s.o, _, c_Mo_answers h (Or.inr rfl), ?_⟩
        rintro _ _ ⟨rfl, rfl⟩
        try simp only [r0, r1_q, r2, r3, r4, r5_q, r7, r12, r13, r15, r17, r18, r19, r20, r21, r22]
        have hto : 0 < G 0 := ht
        have h1 := sWV_in h.ok
        have h2 := h.ok.2.1 hto
        have h3 : 4 ≤ G 2 * G 3 ∧ G 2 * G 3 ≤ 16 := by
          rcases (show G 2 = 2 ∨ G 2 = 3 ∨ G 2 = 4 by omega) with q | q | q <;> rw [q] <;> omega
        have h4 := Int.gcd_pos_of_ne_zero_right (sWV G) (show G 2 * G 3 ≠ 0 by omega)
        have ht0 : t0_q = sWV G := by rw [he0, show x = G 0 by omega, Int.zero_add]; exact sWV_4.symm
        rw [ht0, iw_s (x := nA G 0 * nA G 1) (by rw [ha0, ha1]; omega) (by rw [ha0, ha1]; omega), ha0, ha1]
        refine ⟨_, c_Mo_common 19 h1.1 (by omega) (by omega) (by omega) (by decide), ?_⟩
        rintro x11 m12_q ⟨hg, rfl⟩
        have hdv : ∀ a, 0 ≤ a → a ≤ 3600 → lw64 (Int.tdiv a x11) = a / x11 := fun a a0_q a1_q => by
          rw [Int.tdiv_eq_ediv_of_nonneg a0_q]
          have h6 := Int.ediv_nonneg a0_q (show 0 ≤ x11 by omega)
          have h7 := Int.ediv_le_self x11 a0_q
          exact lw_s (by omega) (by omega)
        refine ⟨fun qc_2 => ?_, fun qc_2 => ?_⟩
        · skip
          refine ⟨(by omega), ?_⟩
          refine ⟨?_, rfl⟩
          rw [aMean, zite_t ht, zite_f (show ¬ w < 0 by omega), zite_t hw1]
          first | (rw [if_neg (show ¬ w = 0 by omega), hdv _ (by omega) (by omega), hg]) | (rw [if_pos (show w = 0 by omega), hdv _ h1.1 h1.2, hg])
        · skip
          refine ⟨(by omega), ?_⟩
          refine ⟨?_, rfl⟩
          rw [aMean, zite_t ht, zite_f (show ¬ w < 0 by omega), zite_t hw1]
          first | (rw [if_neg (show ¬ w = 0 by omega), hdv _ (by omega) (by omega), hg]) | (rw [if_pos (show w = 0 by omega), hdv _ h1.1 h1.2, hg])
      · skip
        exact qL1 0 t0_q (by omega) ⟨by decide, by omega, by rw [zsum_0]; omega, by omega, by omega⟩)
    exact qL0 0 0 (by omega) ⟨by decide, rfl, by decide, by decide⟩
  refine S_Mo_mean ?_
  try simp only [r0, r1_q, r2, r3, r4, r5_q, r7, r12, r13, r15, r17, r18, r19, r20, r21, r22]
  refine ⟨h.s.o, _, c_Mo_hasGame h, ?_⟩
  rintro _ _ ⟨rfl, rfl⟩
  try simp only [r0, r1_q, r2, r3, r4, r5_q, r7, r12, r13, r15, r17, r18, r19, r20, r21, r22]
  refine ⟨fun qc_1 => ?_, fun qc_1 => ?_⟩
  · replace qc_1 := zb_eq0.1 qc_1
    refine ⟨?_, by trivial⟩
    rw [aMean, zite_f (show ¬ told G from qc_1)]
  · replace qc_1 := zb_ne0.1 qc_1
    refine ⟨_, c_Mo_in, ?_⟩
    rintro _ _ ⟨rfl, rfl⟩
    try simp only [r0, r1_q, r2, r3, r4, r5_q, r7, r12, r13, r15, r17, r18, r19, r20, r21, r22]
    refine ⟨fun qc_2 => ?_, fun qc_2 => ?_⟩
    · replace qc_2 := zb_ne0.1 qc_2
      exact key qc_1 qc_2.1 qc_2.2
    · replace qc_2 := zb_eq0.1 (Classical.not_not.1 qc_2)
      refine ⟨?_, by trivial⟩
      rw [aMean, zite_t (show told G from qc_1)]
      rcases (show w < 0 ∨ (0 ≤ w ∧ ¬ w ≤ 1) by omega) with e | e
      · rw [zite_t e]
      · rw [zite_f (by omega), zite_f e.2]
