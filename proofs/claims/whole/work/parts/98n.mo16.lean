/-! THE MODEL, sixteenth: undo, keep, back, feed, end, count -/
theorem c_Mo_undo {d : Nat} {kd : ZK} {m : ZM} {G : GR} {P : Int → GR} {s : Int} {S : Int → GR} {u : Int} {T : Int → Int} {n : Int} (hB_q : MB kd m G P s S u T n) (hS_q : SO G s u T n) : CtI (d + 2) M_Mo_undo [(2, 78)] kd m (fun zz m1_q => zz = (fUndo (G, P, s, S, u, T, n)).1 ∧ MJ kd m m1_q (fUndo (G, P, s, S, u, T, n)).2) := by
  have h : MG kd m G := hB_q.g hS_q.1
  have r0 := h.s.r0
  have r1_q := h.s.r1
  have r2 := h.s.r2
  have r3 := h.s.r3
  have r4 := h.s.r4
  have r5_q := h.s.r5
  have r7 := h.s.r7
  have r12 := h.s.r12
  have r13 := h.s.r13
  have r15 := h.s.r15
  have r17 := h.s.r17
  have r18 := h.s.r18
  have r19 := h.s.r19
  have r20 := h.s.r20
  have r21 := h.s.r21
  have r22 := h.s.r22
  have hok := h.ok.1
  have hq0 : nQ G 0 = G 0 := rfl
  have hq1 : nQ G 1 = G 1 := rfl
  have ha0 : nA G 0 = G 2 := rfl
  have ha1 : nA G 1 = G 3 := rfl
  have e6_q := hB_q.2.2.1.1
  have hs := hS_q.2.1
  have ev : iw (s - 1) = s - 1 := iw_s (by omega) (by omega)
  have hz : MS kd (zup m 78 6 (s - 1)) := h.s.up (Or.inl rfl)
  have z6 : (zup m 78 6 (s - 1)) 78 6 = s - 1 := zup_self
  have z3 := hz.r3
  have z0 := hz.r0
  refine S_Mo_undo ?_
  simp only [e6_q, ev]
  simp only [z3, z0, z6]
  refine ⟨h.s.o, fun qc_1 => ?_, fun qc_1 => ?_⟩
  · have s1_q : 1 ≤ s := by omega
    refine ⟨h.s.o, h.s.o, h.s.o, h.s.o, h.s.o, _, c_Mo_moves hz.k82 hz.k79 (by omega) (by omega) (Or.inl (by decide)), ?_⟩
    rintro m3_q ⟨f3_q, a3, b3⟩
    have e6b : m3_q 78 6 = s - 1 := by rw [f3_q 78 (by decide)]; exact z6
    have ec : ∀ c, c ≠ 79 → c ≠ 78 → m3_q c = m c := fun c qc_1 qc_2 => by rw [f3_q c qc_1, zup_off qc_2]
    rw [e6b]
    refine ⟨h.s.o, ?_⟩
    simp only [fUndo]
    rw [zif_t qc_1]
    refine ⟨rfl, ?_, fun c hc_q => ec c (by omega) (by omega)⟩
    show MB kd m3_q (P (s - 1)) P (s - 1) S u T n
    unfold MB
    rw [ec 82 (by decide) (by decide), ec 83 (by decide) (by decide), ec 84 (by decide) (by decide), ec 85 (by decide) (by decide), e6b, show m3_q 78 8 = m 78 8 by rw [f3_q 78 (by decide), zup_nj (by decide)]]
    refine ⟨hz.fr (f3_q 78 (by decide)), fun i i0_q i1_q => ?_, ⟨rfl, fun k i k0_q k1_q => hB_q.2.2.1.2 k i k0_q (by omega)⟩, hB_q.2.2.2⟩
    have z := a3 i i0_q i1_q
    rw [show 829 * 0 + i = i by omega, zup_off (by decide)] at z
    rw [z]
    exact hB_q.2.2.1.2 (s - 1) i (by omega) (by omega) i0_q i1_q
  · simp only [fUndo]
    rw [zif_f qc_1]
    exact ⟨rfl, MJ.rf hB_q⟩
theorem c_Mo_keep {d : Nat} {kd : ZK} {m : ZM} {G : GR} {P : Int → GR} {s : Int} {S : Int → GR} {u : Int} {T : Int → Int} {n : Int} (hB_q : MB kd m G P s S u T n) (hS_q : SO G s u T n) {k : Int} : CtI (d + 2) M_Mo_keep [(2, 78), (0, k)] kd m (fun zz m1_q => zz = (fKeep (G, P, s, S, u, T, n) k).1 ∧ MJ kd m m1_q (fKeep (G, P, s, S, u, T, n) k).2) := by
  have h : MG kd m G := hB_q.g hS_q.1
  have r0 := h.s.r0
  have r1_q := h.s.r1
  have r2 := h.s.r2
  have r3 := h.s.r3
  have r4 := h.s.r4
  have r5_q := h.s.r5
  have r7 := h.s.r7
  have r12 := h.s.r12
  have r13 := h.s.r13
  have r15 := h.s.r15
  have r17 := h.s.r17
  have r18 := h.s.r18
  have r19 := h.s.r19
  have r20 := h.s.r20
  have r21 := h.s.r21
  have r22 := h.s.r22
  have hok := h.ok.1
  have hq0 : nQ G 0 = G 0 := rfl
  have hq1 : nQ G 1 = G 1 := rfl
  have ha0 : nA G 0 = G 2 := rfl
  have ha1 : nA G 1 = G 3 := rfl
  refine S_Mo_keep ?_
  refine ⟨_, c_Mo_in, ?_⟩
  rintro _ _ ⟨rfl, rfl⟩
  try simp only [r0, r1_q, r2, r3, r4, r5_q, r7, r12, r13, r15, r17, r18, r19, r20, r21, r22]
  refine ⟨fun qc_1 => ?_, fun qc_1 => ?_⟩
  · replace qc_1 := zb_ne0.1 qc_1
    refine ⟨h.s.o, h.s.o, _, c_Mo_moves h.s.k79 h.s.k83 (by omega) (by omega) (Or.inl (by decide)), ?_⟩
    rintro m6_q ⟨f6_q, a6, b6⟩
    have e78 : m6_q 78 = m 78 := f6_q 78 (by decide)
    have e5_q : m6_q 78 5 = 84 := by rw [e78]; exact h.s.r5
    have z0 : (zup m6_q 84 k 1) 78 0 = 79 := by rw [zup_off (by decide), e78]; exact h.s.r0
    have z79 : (zup m6_q 84 k 1) 79 0 = G 0 := by rw [zup_off (by decide), f6_q 79 (by decide)]; exact h.2.1 0 (by decide) (by decide)
    try simp only [e5_q]
    try simp only [z0, z79]
    refine ⟨h.s.o, ⟨2, h.s.k84, by omega, by omega⟩, h.s.o, ⟨829, h.s.k79, by decide, by decide⟩, ?_⟩
    have ec : ∀ c, c ≠ 83 → c ≠ 84 → (zup m6_q 84 k 1) c = m c := fun c qc_1 qc_2 => by rw [zup_off qc_2, f6_q c qc_1]
    have hor := shf_or hS_q.2.2.1 (k := k) ⟨by omega, by omega⟩
    simp only [fKeep]
    rw [zif_f (show ¬ k < 0 by omega), zif_t (show k < 2 by omega)]
    refine ⟨rfl, ?_, fun c hc_q => ec c (by omega) (by omega)⟩
    show MB kd (zup m6_q 84 k 1) G P s (putS S k G) (zor u (zshl 1 k)) T n
    unfold MB
    rw [ec 78 (by decide) (by decide), ec 79 (by decide) (by decide), ec 82 (by decide) (by decide), ec 85 (by decide) (by decide)]
    refine ⟨h.s.fr (ec 78 (by decide) (by decide)), hB_q.2.1, hB_q.2.2.1, ⟨fun j j0 j1 => ?_, fun j i j0 j1 hb_q i0_q i1_q => ?_⟩, hB_q.2.2.2.2⟩
    · rcases Classical.em (j = k) with q | q
      · rw [q, zup_self, zb_t ((hor.2 k (by omega) (by omega)).2 (Or.inr rfl))]
      · rw [zup_nj q, f6_q 84 (by decide), hB_q.2.2.2.1.1 j j0 j1]
        exact zb_congr ⟨fun z => (hor.2 j j0 j1).2 (Or.inl z), fun z => ((hor.2 j j0 j1).1 z).resolve_right q⟩
    · rw [zup_off (by decide)]
      unfold putS
      rcases Classical.em (j = k) with q | q
      · rw [if_pos q, q, a6 i i0_q i1_q, show 829 * 0 + i = i by omega]
        exact h.2.1 i i0_q i1_q
      · rw [if_neg q, b6 _ (by omega)]
        exact hB_q.2.2.2.1.2 j i j0 j1 (((hor.2 j j0 j1).1 hb_q).resolve_right q) i0_q i1_q
  · replace qc_1 := zb_eq0.1 (Classical.not_not.1 qc_1)
    simp only [fKeep]
    rcases (show k < 0 ∨ (¬ k < 0 ∧ ¬ k < 2) by omega) with e | e
    · rw [zif_t e]; exact ⟨rfl, MJ.rf hB_q⟩
    · rw [zif_f e.1, zif_f e.2]; exact ⟨rfl, MJ.rf hB_q⟩
theorem c_Mo_back {d : Nat} {kd : ZK} {m : ZM} {G : GR} {P : Int → GR} {s : Int} {S : Int → GR} {u : Int} {T : Int → Int} {n : Int} (hB_q : MB kd m G P s S u T n) (hS_q : SO G s u T n) {k : Int} : CtI (d + 2) M_Mo_back [(2, 78), (0, k)] kd m (fun zz m1_q => zz = (fBack (G, P, s, S, u, T, n) k).1 ∧ MJ kd m m1_q (fBack (G, P, s, S, u, T, n) k).2) := by
  have h : MG kd m G := hB_q.g hS_q.1
  have r0 := h.s.r0
  have r1_q := h.s.r1
  have r2 := h.s.r2
  have r3 := h.s.r3
  have r4 := h.s.r4
  have r5_q := h.s.r5
  have r7 := h.s.r7
  have r12 := h.s.r12
  have r13 := h.s.r13
  have r15 := h.s.r15
  have r17 := h.s.r17
  have r18 := h.s.r18
  have r19 := h.s.r19
  have r20 := h.s.r20
  have r21 := h.s.r21
  have r22 := h.s.r22
  have hok := h.ok.1
  have hq0 : nQ G 0 = G 0 := rfl
  have hq1 : nQ G 1 = G 1 := rfl
  have ha0 : nA G 0 = G 2 := rfl
  have ha1 : nA G 1 = G 3 := rfl
  refine S_Mo_back ?_
  refine ⟨_, c_Mo_in, ?_⟩
  rintro _ _ ⟨rfl, rfl⟩
  try simp only [r0, r1_q, r2, r3, r4, r5_q, r7, r12, r13, r15, r17, r18, r19, r20, r21, r22]
  refine ⟨fun qc_1 => ?_, fun qc_1 => ?_⟩
  · replace qc_1 := zb_ne0.1 qc_1
    have e84 := hB_q.2.2.2.1.1 k qc_1.1 (by omega)
    try simp only [e84]
    refine ⟨h.s.o, ⟨2, h.s.k84, by omega, by omega⟩, fun qc_2 => ?_, fun qc_2 => ?_⟩
    · have hb_q := zb_ne0.1 qc_2
      refine ⟨h.s.o, h.s.o, _, c_Mo_moves h.s.k83 h.s.k79 (by omega) (by omega) (Or.inl (by decide)), ?_⟩
      rintro m6_q ⟨f6_q, a6, b6⟩
      have e78 : m6_q 78 = m 78 := f6_q 78 (by decide)
      have hM_q : MS kd (zup m6_q 78 6 0) := (h.s.fr e78).up (Or.inl rfl)
      have z0 := hM_q.r0
      have a79 : ∀ i, 0 ≤ i → i < 829 → (zup m6_q 78 6 0) 79 i = S k i := fun i i0_q i1_q => by
        have z := a6 i i0_q i1_q
        rw [show 829 * 0 + i = i by omega] at z
        rw [zup_off (by decide), z]
        exact hB_q.2.2.2.1.2 k i qc_1.1 (by omega) hb_q i0_q i1_q
      try simp only [z0, a79 0 (by decide) (by decide)]
      refine ⟨h.s.o, h.s.o, ⟨829, h.s.k79, by decide, by decide⟩, ?_⟩
      have ec : ∀ c, c ≠ 79 → c ≠ 78 → (zup m6_q 78 6 0) c = m c := fun c qc_1 qc_2 => by rw [zup_off qc_2, f6_q c qc_1]
      simp only [fBack]
      rw [zif_f (show ¬ k < 0 by omega), zif_t (show k < 2 by omega), zif_t hb_q]
      refine ⟨rfl, ?_, fun c hc_q => ec c (by omega) (by omega)⟩
      show MB kd (zup m6_q 78 6 0) (S k) P 0 S u T n
      unfold MB
      rw [ec 82 (by decide) (by decide), ec 83 (by decide) (by decide), ec 84 (by decide) (by decide), ec 85 (by decide) (by decide), zup_self, show (zup m6_q 78 6 0) 78 8 = m 78 8 by rw [zup_nj (by decide), e78]]
      exact ⟨hM_q, a79, ⟨rfl, fun k i k0_q k1_q => absurd k1_q (by omega)⟩, hB_q.2.2.2⟩
    · simp only [fBack]
      rw [zif_f (show ¬ k < 0 by omega), zif_t (show k < 2 by omega), zif_f (zb_eq0.1 (Classical.not_not.1 qc_2))]
      exact ⟨rfl, MJ.rf hB_q⟩
  · replace qc_1 := zb_eq0.1 (Classical.not_not.1 qc_1)
    simp only [fBack]
    rcases (show k < 0 ∨ (¬ k < 0 ∧ ¬ k < 2) by omega) with e | e
    · rw [zif_t e]; exact ⟨rfl, MJ.rf hB_q⟩
    · rw [zif_f e.1, zif_f e.2]; exact ⟨rfl, MJ.rf hB_q⟩
theorem c_Mo_end {d : Nat} {kd : ZK} {m : ZM} {G : GR} {P : Int → GR} {s : Int} {S : Int → GR} {u : Int} {T : Int → Int} {n : Int} (hB_q : MB kd m G P s S u T n) (hS_q : SO G s u T n) {k : Int} : CtI (d + 1) M_Mo_end [(2, 78), (0, k)] kd m (fun zz m1_q => zz = (fEnd (G, P, s, S, u, T, n) k).1 ∧ MJ kd m m1_q (fEnd (G, P, s, S, u, T, n) k).2) := by
  have h : MG kd m G := hB_q.g hS_q.1
  have r0 := h.s.r0
  have r1_q := h.s.r1
  have r2 := h.s.r2
  have r3 := h.s.r3
  have r4 := h.s.r4
  have r5_q := h.s.r5
  have r7 := h.s.r7
  have r12 := h.s.r12
  have r13 := h.s.r13
  have r15 := h.s.r15
  have r17 := h.s.r17
  have r18 := h.s.r18
  have r19 := h.s.r19
  have r20 := h.s.r20
  have r21 := h.s.r21
  have r22 := h.s.r22
  have hok := h.ok.1
  have hq0 : nQ G 0 = G 0 := rfl
  have hq1 : nQ G 1 = G 1 := rfl
  have ha0 : nA G 0 = G 2 := rfl
  have ha1 : nA G 1 = G 3 := rfl
  have e8 := hB_q.2.2.2.2.1
  refine S_Mo_end ?_
  try simp only [e8]
  refine ⟨fun qc_1 => ?_, fun qc_1 => ⟨h.s.o, fun qc_2 => ⟨h.s.o, ?_⟩, fun qc_2 => ?_⟩⟩
  · simp only [fEnd]
    rw [zif_t qc_1]
    exact ⟨rfl, MJ.rf hB_q⟩
  · simp only [fEnd]
    rw [zif_f qc_1, zif_t qc_2]
    refine ⟨rfl, ?_, fun c hc_q => zup_off (by omega)⟩
    show MB kd (zup m 78 8 k) G P s S u T k
    unfold MB
    rw [zup_off (show (79 : Int) ≠ 78 by decide), zup_off (show (82 : Int) ≠ 78 by decide), zup_off (show (83 : Int) ≠ 78 by decide), zup_off (show (84 : Int) ≠ 78 by decide), zup_off (show (85 : Int) ≠ 78 by decide), zup_self, zup_nj (show (6 : Int) ≠ 8 by decide)]
    exact ⟨h.s.up (Or.inr (Or.inl ⟨by decide, by decide⟩)), hB_q.2.1, hB_q.2.2.1, hB_q.2.2.2.1, rfl, fun i i0_q i1_q => hB_q.2.2.2.2.2 i i0_q (by omega)⟩
  · simp only [fEnd]
    rw [zif_f qc_1, zif_f qc_2]
    exact ⟨rfl, MJ.rf hB_q⟩
theorem zi2b_v (x : Int) : zi2b x = sgb (zand x 255) := by
  have e1_q : zi2b x = (Int32.ofInt x).toInt.bmod 256 := by
    unfold zi2b
    rw [Int8.toInt_toInt32, Int32.toInt_toInt8]
  have e3_q : zand x 255 = ((Int32.ofInt x).toBitVec &&& 255#32).toInt := rfl
  have hb_q := (Int32.ofInt x).toBitVec.isLt
  have e4_q : ((Int32.ofInt x).toBitVec &&& 255#32).toNat = (Int32.ofInt x).toBitVec.toNat % 256 := by
    rw [BitVec.toNat_and]
    exact Nat.and_two_pow_sub_one_eq_mod _ 8
  have e5_q : (Int32.ofInt x).toInt = (Int32.ofInt x).toBitVec.toInt := rfl
  rw [e1_q, e3_q, e5_q, BitVec.toInt_eq_toNat_cond ((Int32.ofInt x).toBitVec &&& 255#32), e4_q, BitVec.toInt_eq_toNat_cond (Int32.ofInt x).toBitVec]
  have bm : ∀ y : Int, y.bmod 256 = if y % 256 < 128 then y % 256 else y % 256 - 256 := fun y => rfl
  rw [bm]
  unfold sgb
  split <;> split <;> split <;> split <;> omega
theorem zi2b_in (x : Int) : -128 ≤ zi2b x ∧ zi2b x ≤ 127 := by
  have e1_q : zi2b x = (Int32.ofInt x).toInt.bmod 256 := by
    unfold zi2b
    rw [Int8.toInt_toInt32, Int32.toInt_toInt8]
  have bm : ∀ y : Int, y.bmod 256 = if y % 256 < 128 then y % 256 else y % 256 - 256 := fun y => rfl
  rw [e1_q, bm]
  split <;> omega
theorem zand255e (x : Int) : zand x 255 = x % 256 := by
  have e3_q : zand x 255 = ((Int32.ofInt x).toBitVec &&& 255#32).toInt := rfl
  have e4_q : ((Int32.ofInt x).toBitVec &&& 255#32).toNat = (Int32.ofInt x).toBitVec.toNat % 256 := by
    rw [BitVec.toNat_and]
    exact Nat.and_two_pow_sub_one_eq_mod _ 8
  have e6_q : (Int32.ofInt x).toBitVec = BitVec.ofInt 32 x := rfl
  rw [e3_q, BitVec.toInt_eq_toNat_cond, e4_q, e6_q, BitVec.toNat_ofInt]
  split <;> omega
theorem zand_inv (u : UInt32) : zand u.toInt32.toInt 255 = (u.toNat : Int) % 256 := by
  rw [zand255e]
  have e : u.toInt32.toInt = u.toBitVec.toInt := rfl
  have e2_q : u.toBitVec.toNat = u.toNat := rfl
  have h := u.toBitVec.isLt
  rw [e, BitVec.toInt_eq_toNat_cond, e2_q]
  split <;> omega
theorem shb (v : Int) (t : Fin 4) : zand (zushr v (8 * (t.1 : Int))) 255 = zand (zshr v (8 * (t.1 : Int))) 255 := by
  have a : ((Int32.ofInt (8 * (t.1 : Int)) &&& 31).toBitVec.smod 32#32).toNat = 8 * t.1 := by
    revert t; decide +kernel
  have b : ((Int32.ofInt (8 * (t.1 : Int))).toUInt32 &&& Int32.toUInt32 31).toNat % 32 = 8 * t.1 := by
    revert t; decide +kernel
  have e2_q : zshr v (8 * (t.1 : Int)) = (BitVec.sshiftRight' (Int32.ofInt v).toBitVec ((Int32.ofInt (8 * (t.1 : Int)) &&& 31).toBitVec.smod 32#32)).toInt := rfl
  have e5_q : (Int32.ofInt v).toUInt32.toNat = (Int32.ofInt v).toBitVec.toNat := rfl
  have hb_q := (Int32.ofInt v).toBitVec.isLt
  unfold zushr
  rw [zand_inv, UInt32.toNat_shiftRight, b, e5_q, e2_q, zand255e, BitVec.toInt_sshiftRight', a, Int.shiftRight_eq_div_pow, Nat.shiftRight_eq_div_pow, BitVec.toInt_eq_toNat_cond]
  generalize (Int32.ofInt v).toBitVec.toNat = w at *
  match t with
  | ⟨0, _⟩ => simp only [Nat.mul_zero, Nat.pow_zero]; split <;> omega
  | ⟨1, _⟩ => simp only [show 2 ^ (8 * 1) = 256 from rfl]; split <;> omega
  | ⟨2, _⟩ => simp only [show 2 ^ (8 * 2) = 65536 from rfl]; split <;> omega
  | ⟨3, _⟩ => simp only [show 2 ^ (8 * 3) = 16777216 from rfl]; split <;> omega

theorem c_Mo_puts {d : Nat} {kd : ZK} {m : ZM} {G : GR} {P : Int → GR} {s : Int} {S : Int → GR} {u : Int} {T : Int → Int} {n : Int} (hB_q : MB kd m G P s S u T n) (hn : 0 ≤ n ∧ n + 4 ≤ 400) {v : Int} : CtV (d + 1) M_Mo_puts [(2, 78), (0, v)] kd m (fun m1_q => MJ kd m m1_q (G, P, s, S, u, fd T n v, n + 4)) := by
  have key : ∀ (t : Nat) (mm : ZM), t ≤ 4 → (∀ c, c ≠ 78 → c ≠ 85 → mm c = m c) → (∀ k, k ≠ 8 → mm 78 k = m 78 k) → mm 78 8 = n + 4 - t → (∀ i, 0 ≤ i → i < n + 4 - t → mm 85 i = sgb (fd T n v i)) → Ev (d + 1) M_Mo_puts 0 0 3 [(2, 78), (0, v), (0, 8 * (t : Int) - 8)] [] kd mm (zqV kd (fun m1_q => MJ kd m m1_q (G, P, s, S, u, fd T n v, n + 4))) := by
    intro t
    induction t with
    | zero =>
      intro mm _ hF hG h8 hX
      refine T_Mo_puts_3 ⟨fun _ => ?_, fun qc_1 => absurd (by omega) qc_1⟩
      refine ⟨?_, fun c hc_q => hF c (by omega) (by omega)⟩
      show MB kd mm G P s S u (fd T n v) (n + 4)
      unfold MB
      rw [hF 79 (by decide) (by decide), hF 82 (by decide) (by decide), hF 83 (by decide) (by decide), hF 84 (by decide) (by decide), hG 6 (by decide), h8]
      refine ⟨⟨hB_q.1.1, ?_⟩, hB_q.2.1, hB_q.2.2.1, hB_q.2.2.2.1, by omega, fun i i0_q i1_q => hX i i0_q (by omega)⟩
      unfold MR
      rw [hG 0 (by decide), hG 1 (by decide), hG 2 (by decide), hG 3 (by decide), hG 4 (by decide), hG 5 (by decide), hG 7 (by decide), hG 12 (by decide), hG 13 (by decide), hG 15 (by decide), hG 17 (by decide), hG 18 (by decide), hG 19 (by decide), hG 20 (by decide), hG 21 (by decide), hG 22 (by decide)]
      exact hB_q.1.2
    | succ t ih =>
      intro mm ht hF hG h8 hX
      have e7_q : mm 78 7 = 85 := by rw [hG 7 (by decide)]; exact hB_q.1.r7
      have ez : 8 * ((t + 1 : Nat) : Int) - 8 = 8 * (t : Int) := by omega
      rw [ez]
      refine T_Mo_puts_3 ?_
      simp only [e7_q, h8]
      refine ⟨fun qc_1 => absurd qc_1 (by omega), fun _ => ?_⟩
      have hx : zi2b (zshr v (8 * (t : Int))) = sgb (fd T n v (n + 4 - ((t + 1 : Nat) : Int))) := by
        rw [zi2b_v]
        unfold fd byt
        rw [if_neg (by omega), show 24 - 8 * (n + 4 - ((t + 1 : Nat) : Int) - n) = 8 * (t : Int) by omega]
        rw [shb v ⟨t, by omega⟩]
      refine ⟨hB_q.1.o, hB_q.1.o, zi2b_in _, ⟨400, hB_q.1.k85, by omega, by omega⟩, hB_q.1.o, hB_q.1.o, ?_⟩
      rw [hx, zup_off (show (78 : Int) ≠ 85 by decide), h8, iw_s (x := n + 4 - ((t + 1 : Nat) : Int) + 1) (by omega) (by omega), iw_s (x := 8 * (t : Int) + -8) (by omega) (by omega), show 8 * (t : Int) + -8 = 8 * (t : Int) - 8 by omega]
      refine ih _ (by omega) (fun c qc_1 qc_2 => by rw [zup_off qc_1, zup_off qc_2]; exact hF c qc_1 qc_2) (fun k hk => by rw [zup_nj hk, zup_off (by decide)]; exact hG k hk) (by rw [zup_self]; omega) (fun i i0_q i1_q => ?_)
      rw [zup_off (by decide), zup_at]
      rcases (show i = n + 4 - ((t + 1 : Nat) : Int) ∨ i < n + 4 - ((t + 1 : Nat) : Int) by omega) with q | q
      · rw [q, gup_at]
      · rw [gup_off (by omega)]; exact hX i i0_q q
  refine S_Mo_puts ?_
  have k4_q := key 4 m (Nat.le_refl _) (fun _ _ _ => rfl) (fun _ _ => rfl) (by rw [hB_q.2.2.2.2.1]; omega) (fun i i0_q i1_q => by
    rw [hB_q.2.2.2.2.2 i i0_q (by omega)]
    unfold fd
    rw [if_pos (by omega)])
  rw [show 8 * ((4 : Nat) : Int) - 8 = 24 by omega] at k4_q
  exact k4_q
theorem c_Mo_feed {d : Nat} {kd : ZK} {m : ZM} {G : GR} {P : Int → GR} {s : Int} {S : Int → GR} {u : Int} {T : Int → Int} {n : Int} (hB_q : MB kd m G P s S u T n) (hS_q : SO G s u T n) {a b c e f : Int} : CtI (d + 2) M_Mo_feed [(2, 78), (0, a), (0, b), (0, c), (0, e), (0, f)] kd m (fun zz m1_q => zz = (fFeed (G, P, s, S, u, T, n) a b c e f).1 ∧ MJ kd m m1_q (fFeed (G, P, s, S, u, T, n) a b c e f).2) := by
  have h : MG kd m G := hB_q.g hS_q.1
  have r0 := h.s.r0
  have r1_q := h.s.r1
  have r2 := h.s.r2
  have r3 := h.s.r3
  have r4 := h.s.r4
  have r5_q := h.s.r5
  have r7 := h.s.r7
  have r12 := h.s.r12
  have r13 := h.s.r13
  have r15 := h.s.r15
  have r17 := h.s.r17
  have r18 := h.s.r18
  have r19 := h.s.r19
  have r20 := h.s.r20
  have r21 := h.s.r21
  have r22 := h.s.r22
  have hok := h.ok.1
  have hq0 : nQ G 0 = G 0 := rfl
  have hq1 : nQ G 1 = G 1 := rfl
  have ha0 : nA G 0 = G 2 := rfl
  have ha1 : nA G 1 = G 3 := rfl
  have e8 := hB_q.2.2.2.2.1
  have hn := hS_q.2.2.2.1
  have en : iw (n + 20) = n + 20 := iw_s (by omega) (by omega)
  refine S_Mo_feed ?_
  simp only [e8, en]
  refine ⟨h.s.o, fun qc_1 => ?_, fun qc_1 => ?_⟩
  · refine ⟨h.s.o, _, c_Mo_puts hB_q (by omega), ?_⟩
    rintro m3_q h3
    refine ⟨h.s.o, _, c_Mo_puts h3.1 (show 0 ≤ n + 4 ∧ n + 4 + 4 ≤ 400 by omega), ?_⟩
    rintro m6_q h6
    refine ⟨h.s.o, _, c_Mo_puts h6.1 (show 0 ≤ n + 4 + 4 ∧ n + 4 + 4 + 4 ≤ 400 by omega), ?_⟩
    rintro m9_q h9
    refine ⟨h.s.o, _, c_Mo_puts h9.1 (show 0 ≤ n + 4 + 4 + 4 ∧ n + 4 + 4 + 4 + 4 ≤ 400 by omega), ?_⟩
    rintro m12_q h12
    refine ⟨h.s.o, _, c_Mo_puts h12.1 (show 0 ≤ n + 4 + 4 + 4 + 4 ∧ n + 4 + 4 + 4 + 4 + 4 ≤ 400 by omega), ?_⟩
    rintro m15 h15
    refine ⟨h.s.o, ?_⟩
    have hb_q := h15.1
    have hf : ∀ c, c < 78 → m15 c = m c := fun c hc_q => by rw [h15.2 c hc_q, h12.2 c hc_q, h9.2 c hc_q, h6.2 c hc_q, h3.2 c hc_q]
    have e15_q : m15 78 8 = n + 4 + 4 + 4 + 4 + 4 := hb_q.2.2.2.2.1
    simp only [fFeed]
    rw [zif_t qc_1, e15_q]
    refine ⟨by show n + 4 + 4 + 4 + 4 + 4 = n + 20; omega, ?_, hf⟩
    have hn2 : n + 4 + 4 + 4 + 4 + 4 = n + 20 := by omega
    have hb2 : MB kd m15 G P s S u (fd (fd (fd (fd (fd T n a) (n + 4) b) (n + 4 + 4) c) (n + 4 + 4 + 4) e) (n + 4 + 4 + 4 + 4) f) (n + 4 + 4 + 4 + 4 + 4) := hb_q
    rw [hn2, show n + 4 + 4 + 4 + 4 = n + 16 by omega, show n + 4 + 4 + 4 = n + 12 by omega, show n + 4 + 4 = n + 8 by omega] at hb2
    exact hb2
  · simp only [fFeed]
    rw [zif_f qc_1]
    exact ⟨rfl, MJ.rf hB_q⟩
theorem shelf_f : ∀ a : Fin 4, (zand (zshr (a.1 : Int) 0) 1 = 0 ∨ zand (zshr (a.1 : Int) 0) 1 = 1) ∧ (zand (zshr (a.1 : Int) 1) 1 = 0 ∨ zand (zshr (a.1 : Int) 1) 1 = 1) ∧ zor (zand (zshr (a.1 : Int) 0) 1) (zshl (zand (zshr (a.1 : Int) 1) 1) 1) = (a.1 : Int) := by decide +kernel
theorem shelf_u {u : Int} (hu : 0 ≤ u ∧ u ≤ 3) : zor (zb (sbit u 0)) (zshl (zb (sbit u 1)) 1) = u := by
  obtain ⟨a, ha_q⟩ := fin_of (n := 4) (show 0 ≤ u ∧ u < (4 : Nat) by omega)
  subst ha_q
  have k := shelf_f a
  have e : ∀ q : Int, (zand (zshr (a.1 : Int) q) 1 = 0 ∨ zand (zshr (a.1 : Int) q) 1 = 1) → zb (sbit (a.1 : Int) q) = zand (zshr (a.1 : Int) q) 1 := fun q hq => by
    rcases hq with z | z
    · rw [z]; exact zb_f (fun w => by unfold sbit at w; omega)
    · rw [z]; exact zb_t z
  rw [e 0 k.1, e 1 k.2.1]
  exact k.2.2
theorem c_Mo_count {d : Nat} {kd : ZK} {m : ZM} {G : GR} {P : Int → GR} {s : Int} {S : Int → GR} {u : Int} {T : Int → Int} {n : Int} (hB_q : MB kd m G P s S u T n) (hS_q : SO G s u T n) {w : Int} : CtI (d + 2) M_Mo_count [(2, 78), (0, w)] kd m (fun x m1_q => pCount (G, P, s, S, u, T, n) w x ∧ MJ kd m m1_q (G, P, s, S, u, T, n)) := by
  have h : MG kd m G := hB_q.g hS_q.1
  have r0 := h.s.r0
  have r1_q := h.s.r1
  have r2 := h.s.r2
  have r3 := h.s.r3
  have r4 := h.s.r4
  have r5_q := h.s.r5
  have r7 := h.s.r7
  have r12 := h.s.r12
  have r13 := h.s.r13
  have r15 := h.s.r15
  have r17 := h.s.r17
  have r18 := h.s.r18
  have r19 := h.s.r19
  have r20 := h.s.r20
  have r21 := h.s.r21
  have r22 := h.s.r22
  have hok := h.ok.1
  have hq0 : nQ G 0 = G 0 := rfl
  have hq1 : nQ G 1 = G 1 := rfl
  have ha0 : nA G 0 = G 2 := rfl
  have ha1 : nA G 1 = G 3 := rfl
  have hj := MJ.rf hB_q
  have e6_q := hB_q.2.2.1.1
  have e8 := hB_q.2.2.2.2.1
  have e0_q : m 79 0 = G 0 := h.2.1 0 (by decide) (by decide)
  have e1_q : m 79 1 = G 1 := h.2.1 1 (by decide) (by decide)
  have e2_q : m 79 2 = G 2 := h.2.1 2 (by decide) (by decide)
  have e3_q : m 79 3 = G 3 := h.2.1 3 (by decide) (by decide)
  have b0 := hB_q.2.2.2.1.1 0 (by decide) (by decide)
  have b1 := hB_q.2.2.2.1.1 1 (by decide) (by decide)
  have e7_q := shelf_u hS_q.2.2.1
  refine S_Mo_count ?_
  try simp only [r0, r1_q, r2, r3, r4, r5_q, r7, r12, r13, r15, r17, r18, r19, r20, r21, r22]
  refine ⟨fun qc_0 => ?_, fun qc_0 => ?_, fun qc_0 => ?_, fun qc_0 => ?_, fun qc_0 => ?_, fun qc_0 => ?_, fun qc_0 => ?_, fun qc_0 => ?_, fun qc_0 => ?_⟩
  · refine ⟨?_, hj⟩
    refine ⟨fun e => ?_, fun e => ?_, fun e => ?_, fun e => ?_, fun e => ?_, fun e => ?_, fun e => ?_, fun e => ?_, fun e => ?_⟩ <;> first | exact absurd e (by omega) | rfl | (rw [e]; exact e0_q) | (rw [e]; exact e1_q) | (rw [e]; exact e2_q) | (rw [e]; exact e3_q) | exact e6_q | exact e8 | exact e7_q
  · refine ⟨h.s.o, ⟨829, h.s.k79, by omega, by omega⟩, ?_⟩
    refine ⟨?_, hj⟩
    refine ⟨fun e => ?_, fun e => ?_, fun e => ?_, fun e => ?_, fun e => ?_, fun e => ?_, fun e => ?_, fun e => ?_, fun e => ?_⟩ <;> first | exact absurd e (by omega) | rfl | (rw [e]; exact e0_q) | (rw [e]; exact e1_q) | (rw [e]; exact e2_q) | (rw [e]; exact e3_q) | exact e6_q | exact e8 | exact e7_q
  · refine ⟨h.s.o, ⟨829, h.s.k79, by omega, by omega⟩, ?_⟩
    refine ⟨?_, hj⟩
    refine ⟨fun e => ?_, fun e => ?_, fun e => ?_, fun e => ?_, fun e => ?_, fun e => ?_, fun e => ?_, fun e => ?_, fun e => ?_⟩ <;> first | exact absurd e (by omega) | rfl | (rw [e]; exact e0_q) | (rw [e]; exact e1_q) | (rw [e]; exact e2_q) | (rw [e]; exact e3_q) | exact e6_q | exact e8 | exact e7_q
  · refine ⟨h.s.o, ⟨829, h.s.k79, by omega, by omega⟩, ?_⟩
    refine ⟨?_, hj⟩
    refine ⟨fun e => ?_, fun e => ?_, fun e => ?_, fun e => ?_, fun e => ?_, fun e => ?_, fun e => ?_, fun e => ?_, fun e => ?_⟩ <;> first | exact absurd e (by omega) | rfl | (rw [e]; exact e0_q) | (rw [e]; exact e1_q) | (rw [e]; exact e2_q) | (rw [e]; exact e3_q) | exact e6_q | exact e8 | exact e7_q
  · refine ⟨h.s.o, ⟨829, h.s.k79, by omega, by omega⟩, ?_⟩
    refine ⟨?_, hj⟩
    refine ⟨fun e => ?_, fun e => ?_, fun e => ?_, fun e => ?_, fun e => ?_, fun e => ?_, fun e => ?_, fun e => ?_, fun e => ?_⟩ <;> first | exact absurd e (by omega) | rfl | (rw [e]; exact e0_q) | (rw [e]; exact e1_q) | (rw [e]; exact e2_q) | (rw [e]; exact e3_q) | exact e6_q | exact e8 | exact e7_q
  · refine ⟨h.s.o, _, c_Mo_winsMany h, ?_⟩
    rintro _ _ ⟨rfl, rfl⟩
    refine ⟨?_, hj⟩
    refine ⟨fun e => ?_, fun e => ?_, fun e => ?_, fun e => ?_, fun e => ?_, fun e => ?_, fun e => ?_, fun e => ?_, fun e => ?_⟩ <;> first | exact absurd e (by omega) | rfl | (rw [e]; exact e0_q) | (rw [e]; exact e1_q) | (rw [e]; exact e2_q) | (rw [e]; exact e3_q) | exact e6_q | exact e8 | exact e7_q
  · refine ⟨h.s.o, ?_⟩
    refine ⟨?_, hj⟩
    refine ⟨fun e => ?_, fun e => ?_, fun e => ?_, fun e => ?_, fun e => ?_, fun e => ?_, fun e => ?_, fun e => ?_, fun e => ?_⟩ <;> first | exact absurd e (by omega) | rfl | (rw [e]; exact e0_q) | (rw [e]; exact e1_q) | (rw [e]; exact e2_q) | (rw [e]; exact e3_q) | exact e6_q | exact e8 | exact e7_q
  · refine ⟨h.s.o, ?_⟩
    refine ⟨?_, hj⟩
    refine ⟨fun e => ?_, fun e => ?_, fun e => ?_, fun e => ?_, fun e => ?_, fun e => ?_, fun e => ?_, fun e => ?_, fun e => ?_⟩ <;> first | exact absurd e (by omega) | rfl | (rw [e]; exact e0_q) | (rw [e]; exact e1_q) | (rw [e]; exact e2_q) | (rw [e]; exact e3_q) | exact e6_q | exact e8 | exact e7_q
  · refine ⟨h.s.o, ⟨2, h.s.k84, by decide, by decide⟩, _, c_Mo_truth, ?_⟩
    rintro _ _ ⟨rfl, rfl⟩
    try simp only [r0, r1_q, r2, r3, r4, r5_q, r7, r12, r13, r15, r17, r18, r19, r20, r21, r22]
    refine ⟨h.s.o, ⟨2, h.s.k84, by decide, by decide⟩, _, c_Mo_truth, ?_⟩
    rintro _ _ ⟨rfl, rfl⟩
    try simp only [r5_q]
    rw [b0, b1, trB, trB]
    refine ⟨?_, hj⟩
    refine ⟨fun e => ?_, fun e => ?_, fun e => ?_, fun e => ?_, fun e => ?_, fun e => ?_, fun e => ?_, fun e => ?_, fun e => ?_⟩ <;> first | exact absurd e (by omega) | rfl | (rw [e]; exact e0_q) | (rw [e]; exact e1_q) | (rw [e]; exact e2_q) | (rw [e]; exact e3_q) | exact e6_q | exact e8 | exact e7_q
