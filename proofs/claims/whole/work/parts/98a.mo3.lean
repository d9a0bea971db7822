/-! THE MODEL, third: rows of answers -/
theorem zxor_nn {x y : Int} (hx : 0 ≤ x) (h : zin32 x) (hy : 0 ≤ y) (k : zin32 y) : 0 ≤ zxor x y := by
  have h1 : (Int32.ofInt x).toBitVec.msb = false := by
    rw [BitVec.msb_eq_toInt, Int32.toInt_toBitVec, zi_toInt h]
    exact decide_eq_false (by omega)
  have h2 : (Int32.ofInt y).toBitVec.msb = false := by
    rw [BitVec.msb_eq_toInt, Int32.toInt_toBitVec, zi_toInt k]
    exact decide_eq_false (by omega)
  have h3 : (Int32.ofInt x ^^^ Int32.ofInt y).toBitVec.msb = false := by
    show ((Int32.ofInt x).toBitVec ^^^ (Int32.ofInt y).toBitVec).msb = false
    rw [BitVec.msb_xor, h1, h2]
    rfl
  rw [BitVec.msb_eq_toInt, Int32.toInt_toBitVec] at h3
  have h4 := of_decide_eq_false h3
  unfold zxor
  omega
theorem c_Math_floorMod10 {d : Nat} {kd : ZK} {m : ZM} {v : Int} (h : zin32 v) : CtI (d + 1) M_Math_floorMod [(0, v), (0, 10)] kd m (fun x m1_q => (0 ≤ v → x = v % 10) ∧ m = m1_q) := by
  refine S_Math_floorMod ⟨by decide, fun _ => ⟨fun h0 => Int.tmod_eq_emod_of_nonneg h0, rfl⟩, fun qc_1 => ⟨fun _ => ⟨fun h0 => Int.tmod_eq_emod_of_nonneg h0, rfl⟩, fun _ => ⟨fun h0 => absurd (zxor_nn h0 h (by decide) (by unfold zin32; omega)) qc_1, rfl⟩⟩⟩
theorem isNum_i {G : GR} {p n : Int} (hq : 0 ≤ nQ G p) : isNum G p n ↔ (0 ≤ n ∧ zal (nQ G p) (fun k => drow G p n (nQ G p - 1 - k) < nA G p)) ∧ n / 10 ^ (nQ G p).toNat = 0 ∧ 0 < G 0 := by
  constructor
  · rintro ⟨⟨h1, h2⟩, h3, h4⟩
    exact ⟨⟨h2, fun k k0_q k1_q => h4 _ (by omega) (by omega)⟩, h3, h1⟩
  · rintro ⟨⟨h2, h4⟩, h3, h1⟩
    refine ⟨⟨h1, h2⟩, h3, fun q q0 q1_q => ?_⟩
    have this : drow G p n (nQ G p - 1 - (nQ G p - 1 - q)) < nA G p := h4 (nQ G p - 1 - q) (by omega) (by omega)
    rw [show nQ G p - 1 - (nQ G p - 1 - q) = q by omega] at this
    exact this
theorem drow_k {G : GR} {p n k : Int} : drow G p n (nQ G p - 1 - k) = n / 10 ^ k.toNat % 10 := by
  unfold drow dg10
  rw [show nQ G p - 1 - (nQ G p - 1 - k) = k by omega]
theorem c_Mo_lays {d : Nat} {kd : ZK} {m : ZM} {G : GR} {p n : Int} (h : MG kd m G) (hp : p = 0 ∨ p = 1) (hn : zin32 n) : CtI (d + 2) M_Mo_lays [(2, 78), (0, p), (0, n)] kd m (fun x m1_q => x = zb (isNum G p n) ∧ (∀ c, c ≠ rM p → m1_q c = m c) ∧ (isNum G p n → ∀ q, 0 ≤ q → q < nQ G p → m1_q (rM p) q = drow G p n q)) := by
  have r0 := h.s.r0
  have r1_q := h.s.r1
  have r2 := h.s.r2
  have r3 := h.s.r3
  have r4 := h.s.r4
  have r5_q := h.s.r5
  have r7 := h.s.r7
  have r12 := h.s.r12
  have r13 := h.s.r13
  have r15 := h.s.r15
  have r17 := h.s.r17
  have r18 := h.s.r18
  have r19 := h.s.r19
  have r20 := h.s.r20
  have r21 := h.s.r21
  have r22 := h.s.r22
  have hok := h.ok.1
  have hq0 : nQ G 0 = G 0 := rfl
  have hq1 : nQ G 1 = G 1 := rfl
  have ha0 : nA G 0 = G 2 := rfl
  have ha1 : nA G 1 = G 3 := rfl
  have hnq := h.ok.q p
  have hkr := h.s.kr p
  have qL0 := zfor3 (nQ G p) (fun (i : Int) (mm : ZM) (l : Int) (t : Int) => Ev (d + 2) M_Mo_lays 0 0 29 [(2, 78), (0, p), zJ, (0, l), (2, rM p), (0, t), (0, (nQ G p - 1 - i))] [] kd mm (zqI kd (fun x m1_q => x = zb (isNum G p n) ∧ (∀ c, c ≠ rM p → m1_q c = m c) ∧ (isNum G p n → ∀ q, 0 ≤ q → q < nQ G p → m1_q (rM p) q = drow G p n q)))) (fun (i : Int) (mm : ZM) (l : Int) (t : Int) => 0 ≤ i ∧ (∀ c, c ≠ rM p → mm c = m c) ∧ t = zb (0 ≤ n ∧ zal i (fun k => drow G p n (nQ G p - 1 - k) < nA G p)) ∧ (0 ≤ n → l = n / 10 ^ i.toNat ∧ zal i (fun k => mm (rM p) (nQ G p - 1 - k) = drow G p n (nQ G p - 1 - k))) ∧ zin32 l) (by
    intro i mm l t hb_q hI0 qKL0
    obtain ⟨hi0, hF, ht, hL, hl32⟩ := hI0
    have hr := rM_in p
    have hm_q : MG kd mm G := h.fr (hF 78 (by omega)) (hF 79 (by omega))
    refine T_Mo_lays_29 ?_
    refine ⟨fun qc_1 => ?_, fun qc_1 => ?_⟩
    · have hi_q : i = nQ G p := by omega
      refine ⟨fun qc_2 => ?_, fun qc_2 => ?_⟩
      · skip
        first | exact ⟨(zbF (fun z => zb_eq0.1 (ht.symm.trans qc_2) (by have := ((isNum_i hnq.1).1 z).1; rw [hi_q] ; exact this))), hF, fun z => absurd (by have := ((isNum_i hnq.1).1 z).1; rw [hi_q] ; exact this) (zb_eq0.1 (ht.symm.trans qc_2))⟩ | exact ⟨(zbF (fun z => qc_3 (by rw [(hL ((isNum_i hnq.1).1 z).1.1).1, hi_q]; exact ((isNum_i hnq.1).1 z).2.1))), hF, fun z => absurd (by rw [(hL ((isNum_i hnq.1).1 z).1.1).1, hi_q]; exact ((isNum_i hnq.1).1 z).2.1) qc_3⟩ | exact ⟨(zbF (fun z => zb_eq0.1 qc_4 z.1.1)), hF, fun z => absurd z.1.1 (zb_eq0.1 qc_4)⟩
      · skip
        refine ⟨fun qc_3 => ?_, fun qc_3 => ?_⟩
        · skip
          first | exact ⟨(zbF (fun z => zb_eq0.1 (ht.symm.trans qc_2) (by have := ((isNum_i hnq.1).1 z).1; rw [hi_q] ; exact this))), hF, fun z => absurd (by have := ((isNum_i hnq.1).1 z).1; rw [hi_q] ; exact this) (zb_eq0.1 (ht.symm.trans qc_2))⟩ | exact ⟨(zbF (fun z => qc_3 (by rw [(hL ((isNum_i hnq.1).1 z).1.1).1, hi_q]; exact ((isNum_i hnq.1).1 z).2.1))), hF, fun z => absurd (by rw [(hL ((isNum_i hnq.1).1 z).1.1).1, hi_q]; exact ((isNum_i hnq.1).1 z).2.1) qc_3⟩ | exact ⟨(zbF (fun z => zb_eq0.1 qc_4 z.1.1)), hF, fun z => absurd z.1.1 (zb_eq0.1 qc_4)⟩
        · skip
          refine ⟨h.s.o, _, c_Mo_hasGame hm_q, ?_⟩
          rintro _ _ ⟨rfl, rfl⟩
          refine ⟨fun qc_4 => ?_, fun qc_4 => ?_⟩
          · skip
            first | exact ⟨(zbF (fun z => zb_eq0.1 (ht.symm.trans qc_2) (by have := ((isNum_i hnq.1).1 z).1; rw [hi_q] ; exact this))), hF, fun z => absurd (by have := ((isNum_i hnq.1).1 z).1; rw [hi_q] ; exact this) (zb_eq0.1 (ht.symm.trans qc_2))⟩ | exact ⟨(zbF (fun z => qc_3 (by rw [(hL ((isNum_i hnq.1).1 z).1.1).1, hi_q]; exact ((isNum_i hnq.1).1 z).2.1))), hF, fun z => absurd (by rw [(hL ((isNum_i hnq.1).1 z).1.1).1, hi_q]; exact ((isNum_i hnq.1).1 z).2.1) qc_3⟩ | exact ⟨(zbF (fun z => zb_eq0.1 qc_4 z.1.1)), hF, fun z => absurd z.1.1 (zb_eq0.1 qc_4)⟩
          · skip
            have hz0 := zb_ne0.1 (fun e_ => qc_2 (ht.trans e_))
            have hz : isNum G p n := (isNum_i hnq.1).2 ⟨⟨hz0.1, fun k k0_q k1_q => hz0.2 k k0_q (by omega)⟩, by rw [← hi_q, ← (hL hz0.1).1]; exact Classical.not_not.1 qc_3, zb_ne0.1 qc_4⟩
            refine ⟨(zbT hz), hF, fun _ q q0 q1_q => ?_⟩
            have this : mm (rM p) (nQ G p - 1 - (nQ G p - 1 - q)) = drow G p n (nQ G p - 1 - (nQ G p - 1 - q)) := (hL hz.1.2).2 (nQ G p - 1 - q) (by omega) (by omega)
            rw [show nQ G p - 1 - (nQ G p - 1 - q) = q by omega] at this
            exact this
    · skip
      refine ⟨_, c_Math_floorMod10 hl32, ?_⟩
      rintro x5_q m6_q ⟨hx5, rfl⟩
      have hl10 : 0 ≤ n → iw (Int.tdiv l 10) = n / 10 ^ (i + 1).toNat := fun h0 => by
        have := (hL h0).1
        have h1 : 0 ≤ l := by rw [this]; exact Int.ediv_nonneg h0 (Int.le_of_lt (Int.pow_pos (by decide)))
        rw [Int.tdiv_eq_ediv_of_nonneg h1, iw_s (by unfold zin32 at hl32; omega) (by unfold zin32 at hl32; omega), p10_1 hi0, ← this]
      have hd10 : 0 ≤ n → x5_q = drow G p n (nQ G p - 1 - i) := fun h0 => by
        have := (hL h0).1
        have h1 : 0 ≤ l := by rw [this]; exact Int.ediv_nonneg h0 (Int.le_of_lt (Int.pow_pos (by decide)))
        rw [hx5 h1, drow_k, this]
      have hL' : 0 ≤ n → iw (Int.tdiv l 10) = n / 10 ^ (i + 1).toNat ∧ zal (i + 1) (fun k => (zup mm (rM p) (nQ G p - 1 - i) x5_q) (rM p) (nQ G p - 1 - k) = drow G p n (nQ G p - 1 - k)) := fun h0 => ⟨hl10 h0, fun k k0_q k1_q => by
        rw [zup_at]
        rcases (show k = i ∨ k < i by omega) with q | q
        · rw [q, gup_at]; exact hd10 h0
        · rw [gup_off (by omega)]; exact (hL h0).2 k k0_q q⟩
      have hF' : ∀ c, c ≠ rM p → (zup mm (rM p) (nQ G p - 1 - i) x5_q) c = m c := fun c hc_q => by rw [zup_off hc_q]; exact hF c hc_q
      have e1_q : nQ G p - 1 - i + -1 = nQ G p - 1 - (i + 1) := by omega
      have h32' : zin32 (iw (Int.tdiv l 10)) := zin_iw _
      have hm2 : MG kd (zup mm (rM p) (nQ G p - 1 - i) x5_q) G := hm_q.fr (zup_off (by omega)) (zup_off (by omega))
      refine ⟨⟨5, h.s.kr p, by omega, by omega⟩, ?_⟩
      refine ⟨fun qc_5 => ?_, fun qc_5 => ?_⟩
      · skip
        rw [iw_s (x := nQ G p - 1 - i + -1) (by omega) (by omega), e1_q]
        first | (exact qKL0 _ _ 0 (by omega) ⟨by omega, hF', (zbF (fun z => zb_eq0.1 (ht.symm.trans qc_5) ⟨z.1, ((zal_s hi0).1 z.2).1⟩)), hL', h32'⟩) | (rw [zup_self] at qc_6; exact qKL0 _ _ 0 (by omega) ⟨by omega, hF', (zbF (fun z => absurd (show drow G p n (nQ G p - 1 - i) < nA G p from ((zal_s hi0).1 z.2).2) (by rw [← hd10 z.1]; omega))), hL', h32'⟩) | (rw [zup_self, hd10 (zb_ne0.1 (fun e_ => qc_5 (ht.trans e_))).1] at qc_6; exact qKL0 _ _ 1 (by omega) ⟨by omega, hF', (zbT ⟨(zb_ne0.1 (fun e_ => qc_5 (ht.trans e_))).1, (zal_s hi0).2 ⟨(zb_ne0.1 (fun e_ => qc_5 (ht.trans e_))).2, (show drow G p n (nQ G p - 1 - i) < nA G p by omega)⟩⟩), hL', h32'⟩)
      · skip
        refine ⟨⟨5, h.s.kr p, by omega, by omega⟩, ?_⟩
        refine ⟨h.s.o, _, c_Mo_answers hm2 hp, ?_⟩
        rintro _ _ ⟨rfl, rfl⟩
        refine ⟨fun qc_6 => ?_, fun qc_6 => ?_⟩
        · skip
          rw [iw_s (x := nQ G p - 1 - i + -1) (by omega) (by omega), e1_q]
          first | (exact qKL0 _ _ 0 (by omega) ⟨by omega, hF', (zbF (fun z => zb_eq0.1 (ht.symm.trans qc_5) ⟨z.1, ((zal_s hi0).1 z.2).1⟩)), hL', h32'⟩) | (rw [zup_self] at qc_6; exact qKL0 _ _ 0 (by omega) ⟨by omega, hF', (zbF (fun z => absurd (show drow G p n (nQ G p - 1 - i) < nA G p from ((zal_s hi0).1 z.2).2) (by rw [← hd10 z.1]; omega))), hL', h32'⟩) | (rw [zup_self, hd10 (zb_ne0.1 (fun e_ => qc_5 (ht.trans e_))).1] at qc_6; exact qKL0 _ _ 1 (by omega) ⟨by omega, hF', (zbT ⟨(zb_ne0.1 (fun e_ => qc_5 (ht.trans e_))).1, (zal_s hi0).2 ⟨(zb_ne0.1 (fun e_ => qc_5 (ht.trans e_))).2, (show drow G p n (nQ G p - 1 - i) < nA G p by omega)⟩⟩), hL', h32'⟩)
        · skip
          rw [iw_s (x := nQ G p - 1 - i + -1) (by omega) (by omega), e1_q]
          first | (exact qKL0 _ _ 0 (by omega) ⟨by omega, hF', (zbF (fun z => zb_eq0.1 (ht.symm.trans qc_5) ⟨z.1, ((zal_s hi0).1 z.2).1⟩)), hL', h32'⟩) | (rw [zup_self] at qc_6; exact qKL0 _ _ 0 (by omega) ⟨by omega, hF', (zbF (fun z => absurd (show drow G p n (nQ G p - 1 - i) < nA G p from ((zal_s hi0).1 z.2).2) (by rw [← hd10 z.1]; omega))), hL', h32'⟩) | (rw [zup_self, hd10 (zb_ne0.1 (fun e_ => qc_5 (ht.trans e_))).1] at qc_6; exact qKL0 _ _ 1 (by omega) ⟨by omega, hF', (zbT ⟨(zb_ne0.1 (fun e_ => qc_5 (ht.trans e_))).1, (zal_s hi0).2 ⟨(zb_ne0.1 (fun e_ => qc_5 (ht.trans e_))).2, (show drow G p n (nQ G p - 1 - i) < nA G p by omega)⟩⟩), hL', h32'⟩))
  refine S_Mo_lays ?_
  try simp only [r0, r1_q, r2, r3, r4, r5_q, r7, r12, r13, r15, r17, r18, r19, r20, r21, r22]
  refine ⟨h.s.o, _, c_Mo_rowOf h, ?_⟩
  rintro _ _ ⟨rfl, rfl⟩
  try simp only [r0, r1_q, r2, r3, r4, r5_q, r7, r12, r13, r15, r17, r18, r19, r20, r21, r22]
  refine ⟨fun qc_1 => ?_, fun qc_1 => ?_⟩
  · skip
    refine ⟨h.s.o, _, c_Mo_questions h (by omega), ?_⟩
    rintro _ _ ⟨rfl, rfl⟩
    try simp only [r0, r1_q, r2, r3, r4, r5_q, r7, r12, r13, r15, r17, r18, r19, r20, r21, r22]
    rw [iw_s (by omega) (by omega), show nQ G p - 1 = nQ G p - 1 - 0 by omega]
    first | exact qL0 0 m n 0 (by omega) ⟨by decide, fun _ _ => rfl, (zbF (fun z => by have := z.1; omega)), fun h0 => ⟨by simp, zal_0 _⟩, hn⟩ | exact qL0 0 m n 1 (by omega) ⟨by decide, fun _ _ => rfl, (zbT ⟨by omega, zal_0 _⟩), fun h0 => ⟨by simp, zal_0 _⟩, hn⟩
  · skip
    refine ⟨h.s.o, _, c_Mo_questions h (by omega), ?_⟩
    rintro _ _ ⟨rfl, rfl⟩
    try simp only [r0, r1_q, r2, r3, r4, r5_q, r7, r12, r13, r15, r17, r18, r19, r20, r21, r22]
    rw [iw_s (by omega) (by omega), show nQ G p - 1 = nQ G p - 1 - 0 by omega]
    first | exact qL0 0 m n 0 (by omega) ⟨by decide, fun _ _ => rfl, (zbF (fun z => by have := z.1; omega)), fun h0 => ⟨by simp, zal_0 _⟩, hn⟩ | exact qL0 0 m n 1 (by omega) ⟨by decide, fun _ _ => rfl, (zbT ⟨by omega, zal_0 _⟩), fun h0 => ⟨by simp, zal_0 _⟩, hn⟩
theorem c_Mo_toldOf {d : Nat} {kd : ZK} {m : ZM} {G : GR} {p : Int} (h : MG kd m G) (hp : p = 0 ∨ p = 1) (hr : ∀ q, 0 ≤ q → q < nQ G p → 0 ≤ m (rM p) q ∧ m (rM p) q ≤ 9) : CtI (d + 2) M_Mo_toldOf [(2, 78), (0, p)] kd m (qE m (zhn (nQ G p).toNat (m (rM p)))) := by
  have r0 := h.s.r0
  have r1_q := h.s.r1
  have r2 := h.s.r2
  have r3 := h.s.r3
  have r4 := h.s.r4
  have r5_q := h.s.r5
  have r7 := h.s.r7
  have r12 := h.s.r12
  have r13 := h.s.r13
  have r15 := h.s.r15
  have r17 := h.s.r17
  have r18 := h.s.r18
  have r19 := h.s.r19
  have r20 := h.s.r20
  have r21 := h.s.r21
  have r22 := h.s.r22
  have hok := h.ok.1
  have hq0 : nQ G 0 = G 0 := rfl
  have hq1 : nQ G 1 = G 1 := rfl
  have ha0 : nA G 0 = G 2 := rfl
  have ha1 : nA G 1 = G 3 := rfl
  have hnq := h.ok.q p
  have hkr := h.s.kr p
  have qL0 := zfor1 (nQ G p) (fun (i : Int) (t : Int) => Ev (d + 2) M_Mo_toldOf 0 0 4 [(2, 78), (0, p), (0, t), (0, i)] [] kd m (zqI kd (qE m (zhn (nQ G p).toNat (m (rM p)))))) (fun (i : Int) (t : Int) => 0 ≤ i ∧ t = zhn i.toNat (m (rM p))) (by
    intro i t hb_q hI0 qKL0
    obtain ⟨hi0, ht⟩ := hI0
    have hb1 := zhn_in (r := m (rM p)) i.toNat (by omega) (fun q q1_q q2_q => hr q q1_q (by omega))
    have hb2 : (10 : Int) ^ i.toNat ≤ 10 ^ 5 := by exact_mod_cast Nat.pow_le_pow_right (by decide) (show i.toNat ≤ 5 by omega)
    refine T_Mo_toldOf_4 ?_
    try simp only [r0, r1_q, r2, r3, r4, r5_q, r7, r12, r13, r15, r17, r18, r19, r20, r21, r22]
    refine ⟨h.s.o, _, c_Mo_questions h (by omega), ?_⟩
    rintro _ _ ⟨rfl, rfl⟩
    try simp only [r0, r1_q, r2, r3, r4, r5_q, r7, r12, r13, r15, r17, r18, r19, r20, r21, r22]
    refine ⟨fun qc_1 => ?_, fun qc_1 => ?_⟩
    · skip
      rw [show i = nQ G p by omega] at ht
      exact ⟨ht, rfl⟩
    · skip
      refine ⟨h.s.o, _, c_Mo_rowOf h, ?_⟩
      rintro _ _ ⟨rfl, rfl⟩
      try simp only [r0, r1_q, r2, r3, r4, r5_q, r7, r12, r13, r15, r17, r18, r19, r20, r21, r22]
      refine ⟨⟨5, h.s.kr p, by omega, by omega⟩, ?_⟩
      rw [iw_s (x := i + 1) (by omega) (by omega)]
      have hd_q := hr i hi0 (by omega)
      rw [iw_s (x := 10 * t) (by omega) (by omega), iw_s (by omega) (by omega)]
      exact qKL0 _ (by omega) ⟨by omega, by rw [zhn_1 hi0, ← ht, Int.mul_comm]⟩)
  refine S_Mo_toldOf ?_
  try simp only [r0, r1_q, r2, r3, r4, r5_q, r7, r12, r13, r15, r17, r18, r19, r20, r21, r22]
  exact qL0 0 0 (by omega) ⟨by omega, rfl⟩
theorem c_Mo_laysFirst {d : Nat} {kd : ZK} {m : ZM} {G : GR} {p : Int} (h : MG kd m G) : CtV (d + 2) M_Mo_laysFirst [(2, 78), (0, p)] kd m (fun m1_q => (∀ c, c ≠ rM p → m1_q c = m c) ∧ ∀ q, 0 ≤ q → q < 5 → m1_q (rM p) q = 0) := by
  have r0 := h.s.r0
  have r1_q := h.s.r1
  have r2 := h.s.r2
  have r3 := h.s.r3
  have r4 := h.s.r4
  have r5_q := h.s.r5
  have r7 := h.s.r7
  have r12 := h.s.r12
  have r13 := h.s.r13
  have r15 := h.s.r15
  have r17 := h.s.r17
  have r18 := h.s.r18
  have r19 := h.s.r19
  have r20 := h.s.r20
  have r21 := h.s.r21
  have r22 := h.s.r22
  have qL0 := zfor1 (5) (fun (i : Int) (mm : ZM) => Ev (d + 2) M_Mo_laysFirst 0 0 2 [(2, 78), (0, p), (0, i)] [] kd mm (zqV kd (fun m1_q => (∀ c, c ≠ rM p → m1_q c = m c) ∧ ∀ q, 0 ≤ q → q < 5 → m1_q (rM p) q = 0))) (fun (i : Int) (mm : ZM) => 0 ≤ i ∧ (∀ c, c ≠ rM p → mm c = m c) ∧ ∀ q, 0 ≤ q → q < i → mm (rM p) q = 0) (by
    intro i mm hb_q hI0 qKL0
    obtain ⟨hi0, hF, hX⟩ := hI0
    have hr := rM_in p
    have hm_q : MG kd mm G := h.fr (hF 78 (by omega)) (hF 79 (by omega))
    refine T_Mo_laysFirst_2 ?_
    refine ⟨fun qc_1 => ?_, fun qc_1 => ?_⟩
    · skip
      exact ⟨hF, fun q q0 q1_q => hX q q0 (by omega)⟩
    · skip
      refine ⟨h.s.o, _, c_Mo_rowOf hm_q, ?_⟩
      rintro _ _ ⟨rfl, rfl⟩
      refine ⟨⟨5, h.s.kr p, by omega, by omega⟩, ?_⟩
      rw [iw_s (x := i + 1) (by omega) (by omega)]
      refine qKL0 _ (by omega) ⟨by omega, fun c hc_q => by rw [zup_off hc_q]; exact hF c hc_q, fun q q0 q1_q => ?_⟩
      rw [zup_at]
      rcases (show q = i ∨ q < i by omega) with k | k
      · rw [k, gup_at]
      · rw [gup_off (by omega)]; exact hX q q0 k)
  refine S_Mo_laysFirst ?_
  try simp only [r0, r1_q, r2, r3, r4, r5_q, r7, r12, r13, r15, r17, r18, r19, r20, r21, r22]
  exact qL0 0 m (by decide) ⟨by decide, fun _ _ => rfl, fun q q0 q1_q => by omega⟩
theorem c_Mo_goesOn {d : Nat} {kd : ZK} {m : ZM} {G : GR} {p c : Int} (h : MG kd m G) (hp : p = 0 ∨ p = 1) (ha1 : 1 ≤ nA G p) (hE : ∀ j, 0 ≤ j → j < nQ G p → m (rM p) j = erow (nQ G p) (nA G p) c j) (hc_q : 0 ≤ c ∧ c < nA G p ^ (nQ G p).toNat) : CtI (d + 2) M_Mo_goesOn [(2, 78), (0, p)] kd m (fun x m1_q => x = zb (c + 1 < nA G p ^ (nQ G p).toNat) ∧ (c + 1 < nA G p ^ (nQ G p).toNat → ∀ j, 0 ≤ j → j < nQ G p → m1_q (rM p) j = erow (nQ G p) (nA G p) (c + 1) j) ∧ ∀ e, e ≠ rM p → m1_q e = m e) := by
  have r0 := h.s.r0
  have r1_q := h.s.r1
  have r2 := h.s.r2
  have r3 := h.s.r3
  have r4 := h.s.r4
  have r5_q := h.s.r5
  have r7 := h.s.r7
  have r12 := h.s.r12
  have r13 := h.s.r13
  have r15 := h.s.r15
  have r17 := h.s.r17
  have r18 := h.s.r18
  have r19 := h.s.r19
  have r20 := h.s.r20
  have r21 := h.s.r21
  have r22 := h.s.r22
  have hnq := h.ok.q p
  have hna := h.ok.a p
  have hkr := h.s.kr p
  have key : ∀ (mm : ZM) (q : Int), nxI (nQ G p) (nA G p) c (mm (rM p)) q → (∀ e, e ≠ rM p → mm e = m e) → (0 ≤ q → mm (rM p) q ≠ nA G p - 1) → Ev (d + 2) M_Mo_goesOn 0 0 41 [zJ, zJ, (2, rM p), (0, q)] [] kd mm (zqI kd (fun x m1_q => x = zb (c + 1 < nA G p ^ (nQ G p).toNat) ∧ (c + 1 < nA G p ^ (nQ G p).toNat → ∀ j, 0 ≤ j → j < nQ G p → m1_q (rM p) j = erow (nQ G p) (nA G p) (c + 1) j) ∧ ∀ e, e ≠ rM p → m1_q e = m e)) := by
    intro mm q hN_q hF hQ
    have hNq := hN_q.1
    refine T_Mo_goesOn_41 ⟨fun qc_1 => ⟨fun qc_2 => ?_, fun qc_2 => absurd qc_1 qc_2⟩, fun qc_1 => ?_⟩
    · rw [show q = -1 by omega] at hN_q
      have he := nxI_end (by omega) hN_q hc_q.1 hc_q.2
      exact ⟨(zbF (by omega)), fun z => absurd z (by omega), hF⟩
    · have h0 : 0 ≤ q := by omega
      have hnx := nxI_2 (by omega) h0 hN_q (hQ h0)
      have hmo := nxI_more (by omega) h0 hN_q (hQ h0) hc_q.1 hc_q.2
      have hdq : 0 ≤ mm (rM p) q ∧ mm (rM p) q < nA G p := by rw [hN_q.2.2.1 q h0 (Int.le_refl _)]; exact dgt_in (by omega)
      rw [iw_s (x := mm (rM p) q + 1) (by omega) (by omega)]
      refine ⟨⟨5, hkr, by omega, by omega⟩, ⟨5, hkr, by omega, by omega⟩, fun qc_2 => absurd qc_2 qc_1, fun qc_2 => ⟨(zbT hmo), fun _ j j0 j1 => ?_, fun e he => ?_⟩⟩
      · rw [zup_at]; exact hnx j j0 j1
      · rw [zup_off he]; exact hF e he
  have qL0 := zfor1 (nQ G p) (fun (i : Int) (mm : ZM) => Ev (d + 2) M_Mo_goesOn 0 0 14 [(2, 78), (0, p), (2, rM p), (0, (nQ G p - 1 - i))] [] kd mm (zqI kd (fun x m1_q => x = zb (c + 1 < nA G p ^ (nQ G p).toNat) ∧ (c + 1 < nA G p ^ (nQ G p).toNat → ∀ j, 0 ≤ j → j < nQ G p → m1_q (rM p) j = erow (nQ G p) (nA G p) (c + 1) j) ∧ ∀ e, e ≠ rM p → m1_q e = m e))) (fun (i : Int) (mm : ZM) => 0 ≤ i ∧ nxI (nQ G p) (nA G p) c (mm (rM p)) (nQ G p - 1 - i) ∧ ∀ e, e ≠ rM p → mm e = m e) (by
    intro i mm hb_q hI0 qKL0
    obtain ⟨hi0, hN_q, hF⟩ := hI0
    have hr := rM_in p
    have hm_q : MG kd mm G := h.fr (hF 78 (by omega)) (hF 79 (by omega))
    have ena : iw (nA G p - 1) = nA G p - 1 := iw_s (by omega) (by omega)
    refine T_Mo_goesOn_14 ?_
    refine ⟨fun qc_1 => ?_, fun qc_1 => ?_⟩
    · try rw [ena] at qc_1
      exact key mm _ hN_q hF (fun h0 => by first | exact qc_2 | omega)
    · try rw [ena] at qc_1
      refine ⟨⟨5, h.s.kr p, by omega, by omega⟩, ?_⟩
      refine ⟨h.s.o, _, c_Mo_answers hm_q hp, ?_⟩
      rintro _ _ ⟨rfl, rfl⟩
      refine ⟨fun qc_2 => ?_, fun qc_2 => ?_⟩
      · try rw [ena] at qc_2
        exact key mm _ hN_q hF (fun h0 => by first | exact qc_2 | omega)
      · try rw [ena] at qc_2
        refine ⟨⟨5, h.s.kr p, by omega, by omega⟩, ?_⟩
        rw [iw_s (x := nQ G p - 1 - i + -1) (by omega) (by omega), show nQ G p - 1 - i + -1 = nQ G p - 1 - (i + 1) by omega]
        exact qKL0 _ (by omega) ⟨by omega, by rw [zup_at, show nQ G p - 1 - (i + 1) = nQ G p - 1 - i - 1 by omega]; exact nxI_1 (by omega) (by omega) hN_q (Classical.not_not.1 qc_2), fun e he => by rw [zup_off he]; exact hF e he⟩)
  refine S_Mo_goesOn ?_
  try simp only [r0, r1_q, r2, r3, r4, r5_q, r7, r12, r13, r15, r17, r18, r19, r20, r21, r22]
  refine ⟨h.s.o, _, c_Mo_rowOf h, ?_⟩
  rintro _ _ ⟨rfl, rfl⟩
  try simp only [r0, r1_q, r2, r3, r4, r5_q, r7, r12, r13, r15, r17, r18, r19, r20, r21, r22]
  refine ⟨h.s.o, _, c_Mo_questions h (by omega), ?_⟩
  rintro _ _ ⟨rfl, rfl⟩
  try simp only [r0, r1_q, r2, r3, r4, r5_q, r7, r12, r13, r15, r17, r18, r19, r20, r21, r22]
  rw [iw_s (by omega) (by omega), show nQ G p - 1 = nQ G p - 1 - 0 by omega]
  exact qL0 0 m (by omega) ⟨by decide, by rw [show nQ G p - 1 - 0 = nQ G p - 1 by omega]; exact nxI_0 (by omega) hE, fun _ _ => rfl⟩
theorem c_Mo_worthNow {d : Nat} {kd : ZK} {m : ZM} {G : GR} (h : MG kd m G) (h1 : isRw G 0 (m 86)) (h2 : isRw G 1 (m 87)) : CtI (d + 4) M_Mo_worthNow [(2, 78)] kd m (qE m (wBoth G (m 86) (m 87))) := by
  have r0 := h.s.r0
  have r1_q := h.s.r1
  have r2 := h.s.r2
  have r3 := h.s.r3
  have r4 := h.s.r4
  have r5_q := h.s.r5
  have r7 := h.s.r7
  have r12 := h.s.r12
  have r13 := h.s.r13
  have r15 := h.s.r15
  have r17 := h.s.r17
  have r18 := h.s.r18
  have r19 := h.s.r19
  have r20 := h.s.r20
  have r21 := h.s.r21
  have r22 := h.s.r22
  have hok := h.ok.1
  have hq0 : nQ G 0 = G 0 := rfl
  have hq1 : nQ G 1 = G 1 := rfl
  have ha0 : nA G 0 = G 2 := rfl
  have ha1 : nA G 1 = G 3 := rfl
  have qL0 := zfor1 (G 0) (fun (x : Int) (t : Int) => Ev (d + 4) M_Mo_worthNow 0 0 4 [(2, 78), (0, t), (0, x), zJ] [] kd m (zqI kd (qE m (wBoth G (m 86) (m 87))))) (fun (x : Int) (t : Int) => 0 ≤ x ∧ t = zsum x.toNat (fun x => zsum (G 1).toNat (fun y => gW G x y * gV G x y (m 86 x) (m 87 y))) ∧ 0 ≤ t ∧ t ≤ 45 * x) (by
    intro x t hb_q hI0 qKL0
    obtain ⟨hx0, ht, t0_q, t1_q⟩ := hI0
    have qL1 := zfor1 (G 1) (fun (y : Int) (s : Int) => Ev (d + 4) M_Mo_worthNow 0 0 15 [(2, 78), (0, s), (0, x), (0, y)] [] kd m (zqI kd (qE m (wBoth G (m 86) (m 87))))) (fun (y : Int) (s : Int) => 0 ≤ y ∧ x < G 0 ∧ s = t + zsum y.toNat (fun y => gW G x y * gV G x y (m 86 x) (m 87 y)) ∧ t ≤ s ∧ s ≤ t + 9 * y) (by
      intro y s hb_q hI1 qKL1
      obtain ⟨hy0, hxl, hs, s0_q, s1_q⟩ := hI1
      have hw : 0 ≤ gW G x y * gV G x y (m 86 x) (m 87 y) ∧ gW G x y * gV G x y (m 86 x) (m 87 y) ≤ 9 := zmul_in (A := 9) (B := 1) (h.ok.gW x y) (h.ok.gV x y _ _)
      have ra_ := h1 x hx0 hxl
      have rb_ : y < G 1 → 0 ≤ m 87 y ∧ m 87 y < nA G 1 := fun e => h2 y hy0 e
      refine T_Mo_worthNow_15 ?_
      try simp only [r0, r1_q, r2, r3, r4, r5_q, r7, r12, r13, r15, r17, r18, r19, r20, r21, r22]
      refine ⟨h.s.o, _, c_Mo_questions h (Or.inr rfl), ?_⟩
      rintro _ _ ⟨rfl, rfl⟩
      try simp only [r0, r1_q, r2, r3, r4, r5_q, r7, r12, r13, r15, r17, r18, r19, r20, r21, r22]
      refine ⟨fun qc_1 => ?_, fun qc_1 => ?_⟩
      · skip
        rw [iw_s (x := x + 1) (by omega) (by omega)]
        refine qKL0 s (by omega) ⟨by omega, ?_, by omega, by omega⟩
        rw [zsum_1 hx0, hs, show y = G 1 by omega, ht]
      · skip
        refine ⟨h.s.o, ⟨5, h.s.k86, by omega, by omega⟩, h.s.o, ⟨5, h.s.k87, by omega, by omega⟩, ?_⟩
        refine ⟨h.s.o, _, c_Mo_isWin h (by omega) (by omega) (by omega) (by have := rb_ (by omega); omega), ?_⟩
        rintro _ _ ⟨rfl, rfl⟩
        try simp only [r0, r1_q, r2, r3, r4, r5_q, r7, r12, r13, r15, r17, r18, r19, r20, r21, r22]
        refine ⟨fun qc_2 => ?_, fun qc_2 => ?_⟩
        · skip
          rw [iw_s (x := y + 1) (by omega) (by omega)]
          first | (have hv : gW G x y * gV G x y (m 86 x) (m 87 y) = 0 := (by have q1_q := h.ok.gV x y (m 86 x) (m 87 y); have q2_q := zb_eq0.1 qc_2; have q3_q : gV G x y (m 86 x) (m 87 y) = 0 := (by omega); rw [q3_q, Int.mul_zero]); rw [iw_s (by omega) (by omega)]; exact qKL1 _ (by omega) ⟨by omega, by omega, by rw [zsum_1 hy0, hs, hv]; omega, by omega, by omega⟩) | (have hv : gW G x y * gV G x y (m 86 x) (m 87 y) = gW G x y := (by rw [zb_ne0.1 qc_2, Int.mul_one]); rw [iw_s (by omega) (by omega)]; exact qKL1 _ (by omega) ⟨by omega, by omega, by rw [zsum_1 hy0, hs, hv]; omega, by omega, by omega⟩)
        · skip
          refine ⟨h.s.o, _, c_Mo_weightOf h (by omega) (by omega), ?_⟩
          rintro _ _ ⟨rfl, rfl⟩
          try simp only [r0, r1_q, r2, r3, r4, r5_q, r7, r12, r13, r15, r17, r18, r19, r20, r21, r22]
          rw [iw_s (x := y + 1) (by omega) (by omega)]
          first | (have hv : gW G x y * gV G x y (m 86 x) (m 87 y) = 0 := (by have q1_q := h.ok.gV x y (m 86 x) (m 87 y); have q2_q := zb_eq0.1 qc_2; have q3_q : gV G x y (m 86 x) (m 87 y) = 0 := (by omega); rw [q3_q, Int.mul_zero]); rw [iw_s (by omega) (by omega)]; exact qKL1 _ (by omega) ⟨by omega, by omega, by rw [zsum_1 hy0, hs, hv]; omega, by omega, by omega⟩) | (have hv : gW G x y * gV G x y (m 86 x) (m 87 y) = gW G x y := (by rw [zb_ne0.1 qc_2, Int.mul_one]); rw [iw_s (by omega) (by omega)]; exact qKL1 _ (by omega) ⟨by omega, by omega, by rw [zsum_1 hy0, hs, hv]; omega, by omega, by omega⟩))
    refine T_Mo_worthNow_4 ?_
    try simp only [r0, r1_q, r2, r3, r4, r5_q, r7, r12, r13, r15, r17, r18, r19, r20, r21, r22]
    refine ⟨h.s.o, _, c_Mo_questions h (Or.inl rfl), ?_⟩
    rintro _ _ ⟨rfl, rfl⟩
    try simp only [r0, r1_q, r2, r3, r4, r5_q, r7, r12, r13, r15, r17, r18, r19, r20, r21, r22]
    refine ⟨fun qc_1 => ?_, fun qc_1 => ?_⟩
    · skip
      rw [show x = G 0 by omega] at ht
      exact ⟨ht, rfl⟩
    · skip
      exact qL1 0 t (by omega) ⟨by decide, by omega, by rw [zsum_0]; omega, by omega, by omega⟩)
  refine S_Mo_worthNow ?_
  try simp only [r0, r1_q, r2, r3, r4, r5_q, r7, r12, r13, r15, r17, r18, r19, r20, r21, r22]
  exact qL0 0 0 (by omega) ⟨by decide, rfl, by decide, by decide⟩
theorem pW_sw {G : GR} {p o k : Int} (hp : p = 0 ∨ p = 1) : pW G (1 - p) o k = pW G p k o := by
  rcases hp with e | e <;> subst e <;> rfl
theorem pV_sw {G : GR} {p o k a b : Int} (hp : p = 0 ∨ p = 1) : pV G (1 - p) o k a b = pV G p k o b a := by
  rcases hp with e | e <;> subst e <;> rfl
theorem nQ_sw {G : GR} {p : Int} (hp : p = 0 ∨ p = 1) : nQ G (1 - (1 - p)) = nQ G p := by
  rcases hp with e | e <;> subst e <;> rfl
theorem nA_sw {G : GR} {p : Int} (hp : p = 0 ∨ p = 1) : nA G (1 - (1 - p)) = nA G p := by
  rcases hp with e | e <;> subst e <;> rfl
theorem rM_sw {p : Int} (hp : p = 0 ∨ p = 1) : rM (1 - (1 - p)) = rM p := by
  rcases hp with e | e <;> subst e <;> rfl
/-- what answer b of the other one to o brings against a row -/
def bW (G : GR) (p o b : Int) (r : Int → Int) (k : Int) : Int := pV G p k o (r k) b * pW G p k o
theorem bW_at {G : GR} {p o b : Int} {r : Int → Int} (hp : p = 0 ∨ p = 1) : wAt G (1 - p) o b r = zsum (nQ G p).toNat (bW G p o b r) := by
  unfold wAt
  rw [nQ_sw hp]
  refine zsum_congr _ (fun k _ _ => ?_)
  rw [pW_sw hp, pV_sw hp, Int.mul_comm]
  rfl
theorem bW_in {G : GR} (ho : GOK G) (p o b : Int) (r : Int → Int) (k : Int) : 0 ≤ bW G p o b r k ∧ bW G p o b r k ≤ 9 := zmul_in (A := 1) (B := 9) (ho.V _ _ _ _ _) (ho.W _ _ _)
theorem c_Mo_laysBy {d : Nat} {kd : ZK} {m : ZM} {G : GR} {p o : Int} (h : MG kd m G) (hp : p = 0 ∨ p = 1) (hr : isRw G p (m (rM p))) (ho : 0 ≤ o ∧ o < nQ G (1 - p)) : CtV (d + 4) M_Mo_laysBy [(2, 78), (0, p), (0, o)] kd m (fun m1_q => (∀ c, c ≠ 88 → m1_q c = m c) ∧ ∀ b, 0 ≤ b → b < nA G (1 - p) → m1_q 88 b = wAt G (1 - p) o b (m (rM p))) := by
  have r0 := h.s.r0
  have r1_q := h.s.r1
  have r2 := h.s.r2
  have r3 := h.s.r3
  have r4 := h.s.r4
  have r5_q := h.s.r5
  have r7 := h.s.r7
  have r12 := h.s.r12
  have r13 := h.s.r13
  have r15 := h.s.r15
  have r17 := h.s.r17
  have r18 := h.s.r18
  have r19 := h.s.r19
  have r20 := h.s.r20
  have r21 := h.s.r21
  have r22 := h.s.r22
  have hok := h.ok.1
  have hq0 : nQ G 0 = G 0 := rfl
  have hq1 : nQ G 1 = G 1 := rfl
  have ha0 : nA G 0 = G 2 := rfl
  have ha1 : nA G 1 = G 3 := rfl
  have n1_q := h.ok.q p
  have n2_q := h.ok.q (1 - p)
  have n3_q := h.ok.a p
  have n4_q := h.ok.a (1 - p)
  have hkr := h.s.kr p
  have hri := rM_in p
  have qL0 := zfor1 (nA G (1 - p)) (fun (b : Int) (mm : ZM) => Ev (d + 4) M_Mo_laysBy 0 0 9 [(2, 78), (0, p), (0, o), (2, rM p), (0, b), zJ] [] kd mm (zqV kd (fun m1_q => (∀ c, c ≠ 88 → m1_q c = m c) ∧ ∀ b, 0 ≤ b → b < nA G (1 - p) → m1_q 88 b = wAt G (1 - p) o b (m (rM p))))) (fun (b : Int) (mm : ZM) => 0 ≤ b ∧ (∀ c, c ≠ 88 → mm c = m c) ∧ ∀ j, 0 ≤ j → j < b → mm 88 j = wAt G (1 - p) o j (m (rM p))) (by
    intro b mm hb_q hI0 qKL0
    obtain ⟨hb0, hF, hX⟩ := hI0
    have hm_q : MG kd mm G := h.fr (hF 78 (by decide)) (hF 79 (by decide))
    have qL1 := zfor1 (nQ G p) (fun (k : Int) (mm : ZM) => Ev (d + 4) M_Mo_laysBy 0 0 32 [(2, 78), (0, p), (0, o), (2, rM p), (0, b), (0, k)] [] kd mm (zqV kd (fun m1_q => (∀ c, c ≠ 88 → m1_q c = m c) ∧ ∀ b, 0 ≤ b → b < nA G (1 - p) → m1_q 88 b = wAt G (1 - p) o b (m (rM p))))) (fun (k : Int) (mm : ZM) => (0 ≤ k ∧ b < nA G (1 - p)) ∧ (∀ c, c ≠ 88 → mm c = m c) ∧ (mm 88 b = zsum k.toNat (bW G p o b (m (rM p))) ∧ 0 ≤ mm 88 b ∧ mm 88 b ≤ 9 * k) ∧ ∀ j, 0 ≤ j → j < b → mm 88 j = wAt G (1 - p) o j (m (rM p))) (by
      intro k mm hb_q hI1 qKL1
      obtain ⟨⟨hk0, hbl⟩, hF, ⟨hs, s0_q, s1_q⟩, hX⟩ := hI1
      have hm_q : MG kd mm G := h.fr (hF 78 (by decide)) (hF 79 (by decide))
      have er : mm (rM p) = m (rM p) := hF _ (by omega)
      have hd_q : k < nQ G p → 0 ≤ m (rM p) k ∧ m (rM p) k < nA G p := fun e => hr k hk0 e
      have hv := bW_in h.ok p o b (m (rM p)) k
      refine T_Mo_laysBy_32 ?_
      try simp only [hm_q.s.r0, hm_q.s.r1, hm_q.s.r2, hm_q.s.r3, hm_q.s.r4, hm_q.s.r5, hm_q.s.r7, hm_q.s.r12, hm_q.s.r13, hm_q.s.r15, hm_q.s.r17, hm_q.s.r18, hm_q.s.r19, hm_q.s.r20, hm_q.s.r21, hm_q.s.r22]
      try simp only [er]
      refine ⟨h.s.o, _, c_Mo_questions hm_q hp, ?_⟩
      rintro _ _ ⟨rfl, rfl⟩
      try simp only [hm_q.s.r0, hm_q.s.r1, hm_q.s.r2, hm_q.s.r3, hm_q.s.r4, hm_q.s.r5, hm_q.s.r7, hm_q.s.r12, hm_q.s.r13, hm_q.s.r15, hm_q.s.r17, hm_q.s.r18, hm_q.s.r19, hm_q.s.r20, hm_q.s.r21, hm_q.s.r22]
      try simp only [er]
      refine ⟨fun qc_1 => ?_, fun qc_1 => ?_⟩
      · skip
        rw [iw_s (x := b + 1) (by omega) (by omega)]
        refine qKL0 mm (by omega) ⟨by omega, hF, fun j j0 j1 => ?_⟩
        rcases (show j = b ∨ j < b by omega) with e | e
        · rw [e, hs, bW_at hp, show k = nQ G p by omega]
        · exact hX j j0 e
      · skip
        refine ⟨h.s.o, ⟨4, h.s.k88, by omega, by omega⟩, ⟨5, h.s.kr p, by omega, by omega⟩, ?_⟩
        refine ⟨h.s.o, _, c_Mo_seenV hm_q (by omega) (by omega) (by have := hd_q (by omega); omega) (by omega), ?_⟩
        rintro _ _ ⟨rfl, rfl⟩
        try simp only [hm_q.s.r0, hm_q.s.r1, hm_q.s.r2, hm_q.s.r3, hm_q.s.r4, hm_q.s.r5, hm_q.s.r7, hm_q.s.r12, hm_q.s.r13, hm_q.s.r15, hm_q.s.r17, hm_q.s.r18, hm_q.s.r19, hm_q.s.r20, hm_q.s.r21, hm_q.s.r22]
        try simp only [er]
        refine ⟨h.s.o, _, c_Mo_weightSeen hm_q (by omega) (by omega), ?_⟩
        rintro _ _ ⟨rfl, rfl⟩
        try simp only [hm_q.s.r0, hm_q.s.r1, hm_q.s.r2, hm_q.s.r3, hm_q.s.r4, hm_q.s.r5, hm_q.s.r7, hm_q.s.r12, hm_q.s.r13, hm_q.s.r15, hm_q.s.r17, hm_q.s.r18, hm_q.s.r19, hm_q.s.r20, hm_q.s.r21, hm_q.s.r22]
        try simp only [er]
        refine ⟨⟨4, h.s.k88, by omega, by omega⟩, ?_⟩
        rw [iw_s (x := k + 1) (by omega) (by omega)]
        have hv2 : pV G p k o (m (rM p) k) b * pW G p k o = bW G p o b (m (rM p)) k := rfl
        rw [hv2, iw_s (x := bW G p o b (m (rM p)) k) (by omega) (by omega), iw_s (by omega) (by omega)]
        refine qKL1 _ (by omega) ⟨⟨by omega, by omega⟩, fun c hc_q => by rw [zup_off hc_q]; exact hF c hc_q, ⟨by rw [zup_self, zsum_1 hk0, hs], by rw [zup_self]; omega, by rw [zup_self]; omega⟩, fun j j0 j1 => ?_⟩
        rw [zup_nj (by omega)]
        exact hX j j0 j1)
    refine T_Mo_laysBy_9 ?_
    try simp only [hm_q.s.r0, hm_q.s.r1, hm_q.s.r2, hm_q.s.r3, hm_q.s.r4, hm_q.s.r5, hm_q.s.r7, hm_q.s.r12, hm_q.s.r13, hm_q.s.r15, hm_q.s.r17, hm_q.s.r18, hm_q.s.r19, hm_q.s.r20, hm_q.s.r21, hm_q.s.r22]
    rw [iw_s (x := 1 - p) (by omega) (by omega)]
    refine ⟨h.s.o, _, c_Mo_answers hm_q (by omega), ?_⟩
    rintro _ _ ⟨rfl, rfl⟩
    try simp only [hm_q.s.r0, hm_q.s.r1, hm_q.s.r2, hm_q.s.r3, hm_q.s.r4, hm_q.s.r5, hm_q.s.r7, hm_q.s.r12, hm_q.s.r13, hm_q.s.r15, hm_q.s.r17, hm_q.s.r18, hm_q.s.r19, hm_q.s.r20, hm_q.s.r21, hm_q.s.r22]
    refine ⟨fun qc_1 => ?_, fun qc_1 => ?_⟩
    · skip
      exact ⟨hF, fun j j0 j1 => hX j j0 (by omega)⟩
    · skip
      refine ⟨h.s.o, ⟨4, h.s.k88, by omega, by omega⟩, ?_⟩
      refine qL1 0 _ (by omega) ⟨⟨by decide, by omega⟩, fun c hc_q => by rw [zup_off hc_q]; exact hF c hc_q, ⟨by rw [zup_self]; rfl, by rw [zup_self]; decide, by rw [zup_self]; decide⟩, fun j j0 j1 => ?_⟩
      rw [zup_nj (by omega)]
      exact hX j j0 j1)
  refine S_Mo_laysBy ?_
  try simp only [r0, r1_q, r2, r3, r4, r5_q, r7, r12, r13, r15, r17, r18, r19, r20, r21, r22]
  refine ⟨h.s.o, _, c_Mo_rowOf h, ?_⟩
  rintro _ _ ⟨rfl, rfl⟩
  try simp only [r0, r1_q, r2, r3, r4, r5_q, r7, r12, r13, r15, r17, r18, r19, r20, r21, r22]
  exact qL0 0 m (by omega) ⟨by decide, fun _ _ => rfl, fun j j0 j1 => by omega⟩
/-- the greatest of those before n, 0 of none -/
def hi0 (f : Int → Int) : Nat → Int
  | 0 => 0
  | n + 1 => zmax (hi0 f n) (f n)
theorem hi0_1 {f : Int → Int} {i : Int} (h : 0 ≤ i) : hi0 f (i + 1).toNat = zmax (hi0 f i.toNat) (f i) := by
  rw [show (i + 1).toNat = i.toNat + 1 by omega, hi0, show ((i.toNat : Nat) : Int) = i by omega]
theorem hi0_zhi {f : Int → Int} : ∀ n : Nat, (∀ i : Int, 0 ≤ i → i ≤ n → 0 ≤ f i) → hi0 f (n + 1) = zhi n f := by
  intro n
  induction n with
  | zero =>
    intro h
    have := h 0 (by decide) (by decide)
    show zmax 0 (f ((0 : Nat) : Int)) = f 0
    unfold zmax
    split
    · rfl
    · have : (0 : Int) ≤ f 0 := this
      simp only [Int.ofNat_zero] at *
      omega
  | succ n ih =>
    intro h
    show zmax (hi0 f (n + 1)) (f ((n + 1 : Nat) : Int)) = zmax (zhi n f) (f (n + 1))
    rw [ih (fun i i0_q i1_q => h i i0_q (by omega))]
    rfl
theorem hi0_congr {f g : Int → Int} : ∀ n : Nat, (∀ i : Int, 0 ≤ i → i < n → f i = g i) → hi0 f n = hi0 g n := by
  intro n
  induction n with
  | zero => intro _; rfl
  | succ n ih =>
    intro h
    rw [hi0, hi0, ih (fun i i0_q i1_q => h i i0_q (by omega)), h n (by omega) (by omega)]
theorem c_Mo_bestBy {d : Nat} {kd : ZK} {m : ZM} {G : GR} {p : Int} (h : MG kd m G) (hp : p = 0 ∨ p = 1) {f : Int → Int} (hf : ∀ b, 0 ≤ b → b < nA G (1 - p) → m 88 b = f b) (hga : 1 ≤ nA G (1 - p)) (hf0 : ∀ b, 0 ≤ b → b < nA G (1 - p) → 0 ≤ f b) : CtI (d + 2) M_Mo_bestBy [(2, 78), (0, p)] kd m (qE m (zhi (nA G (1 - p) - 1).toNat f)) := by
  have r0 := h.s.r0
  have r1_q := h.s.r1
  have r2 := h.s.r2
  have r3 := h.s.r3
  have r4 := h.s.r4
  have r5_q := h.s.r5
  have r7 := h.s.r7
  have r12 := h.s.r12
  have r13 := h.s.r13
  have r15 := h.s.r15
  have r17 := h.s.r17
  have r18 := h.s.r18
  have r19 := h.s.r19
  have r20 := h.s.r20
  have r21 := h.s.r21
  have r22 := h.s.r22
  have hok := h.ok.1
  have hq0 : nQ G 0 = G 0 := rfl
  have hq1 : nQ G 1 = G 1 := rfl
  have ha0 : nA G 0 = G 2 := rfl
  have ha1 : nA G 1 = G 3 := rfl
  have n4_q := h.ok.a (1 - p)
  have qL0 := zfor1 (nA G (1 - p)) (fun (b : Int) (t : Int) => Ev (d + 2) M_Mo_bestBy 0 0 4 [(2, 78), (0, p), (0, t), (0, b)] [] kd m (zqI kd (qE m (zhi (nA G (1 - p) - 1).toNat f)))) (fun (b : Int) (t : Int) => 0 ≤ b ∧ t = hi0 f b.toNat) (by
    intro b t hb_q hI0 qKL0
    obtain ⟨hb0, ht⟩ := hI0
    refine T_Mo_bestBy_4 ?_
    try simp only [r0, r1_q, r2, r3, r4, r5_q, r7, r12, r13, r15, r17, r18, r19, r20, r21, r22]
    rw [iw_s (x := 1 - p) (by omega) (by omega)]
    refine ⟨h.s.o, _, c_Mo_answers h (by omega), ?_⟩
    rintro _ _ ⟨rfl, rfl⟩
    try simp only [r0, r1_q, r2, r3, r4, r5_q, r7, r12, r13, r15, r17, r18, r19, r20, r21, r22]
    refine ⟨fun qc_1 => ?_, fun qc_1 => ?_⟩
    · skip
      refine ⟨?_, rfl⟩
      rw [ht, ← hi0_zhi _ (fun i i0_q i1_q => hf0 i i0_q (by omega)), show b = nA G (1 - p) by omega, show (nA G (1 - p) - 1).toNat + 1 = (nA G (1 - p)).toNat by omega]
    · skip
      refine ⟨h.s.o, ⟨4, h.s.k88, by omega, by omega⟩, ?_⟩
      rw [iw_s (x := b + 1) (by omega) (by omega)]
      rw [hf b hb0 (by omega)]
      exact qKL0 _ (by omega) ⟨by omega, by rw [hi0_1 hb0, ← ht]⟩)
  refine S_Mo_bestBy ?_
  try simp only [r0, r1_q, r2, r3, r4, r5_q, r7, r12, r13, r15, r17, r18, r19, r20, r21, r22]
  exact qL0 0 0 (by omega) ⟨by decide, rfl⟩
theorem c_Mo_worstBy {d : Nat} {kd : ZK} {m : ZM} {G : GR} {p : Int} (h : MG kd m G) (hp : p = 0 ∨ p = 1) {f : Int → Int} (hf : ∀ b, 0 ≤ b → b < nA G (1 - p) → m 88 b = f b) (hga : 1 ≤ nA G (1 - p)) : CtI (d + 2) M_Mo_worstBy [(2, 78), (0, p)] kd m (qE m (zlo (nA G (1 - p) - 1).toNat f)) := by
  have r0 := h.s.r0
  have r1_q := h.s.r1
  have r2 := h.s.r2
  have r3 := h.s.r3
  have r4 := h.s.r4
  have r5_q := h.s.r5
  have r7 := h.s.r7
  have r12 := h.s.r12
  have r13 := h.s.r13
  have r15 := h.s.r15
  have r17 := h.s.r17
  have r18 := h.s.r18
  have r19 := h.s.r19
  have r20 := h.s.r20
  have r21 := h.s.r21
  have r22 := h.s.r22
  have hok := h.ok.1
  have hq0 : nQ G 0 = G 0 := rfl
  have hq1 : nQ G 1 = G 1 := rfl
  have ha0 : nA G 0 = G 2 := rfl
  have ha1 : nA G 1 = G 3 := rfl
  have n4_q := h.ok.a (1 - p)
  have qL0 := zfor1 (nA G (1 - p)) (fun (b : Int) (t : Int) => Ev (d + 2) M_Mo_worstBy 0 0 9 [(2, 78), (0, p), (0, t), (0, b)] [] kd m (zqI kd (qE m (zlo (nA G (1 - p) - 1).toNat f)))) (fun (b : Int) (t : Int) => 1 ≤ b ∧ t = zlo (b - 1).toNat f) (by
    intro b t hb_q hI0 qKL0
    obtain ⟨hb0, ht⟩ := hI0
    refine T_Mo_worstBy_9 ?_
    try simp only [r0, r1_q, r2, r3, r4, r5_q, r7, r12, r13, r15, r17, r18, r19, r20, r21, r22]
    rw [iw_s (x := 1 - p) (by omega) (by omega)]
    refine ⟨h.s.o, _, c_Mo_answers h (by omega), ?_⟩
    rintro _ _ ⟨rfl, rfl⟩
    try simp only [r0, r1_q, r2, r3, r4, r5_q, r7, r12, r13, r15, r17, r18, r19, r20, r21, r22]
    refine ⟨fun qc_1 => ?_, fun qc_1 => ?_⟩
    · skip
      refine ⟨?_, rfl⟩
      rw [ht, show b = nA G (1 - p) by omega]
    · skip
      refine ⟨h.s.o, ⟨4, h.s.k88, by omega, by omega⟩, ?_⟩
      rw [iw_s (x := b + 1) (by omega) (by omega)]
      rw [hf b (by omega) (by omega)]
      have x1_q := zlo_1 (i := b - 1) (by omega) f
      rw [show b - 1 + 1 = b by omega] at x1_q
      exact qKL0 _ (by omega) ⟨by omega, by rw [show b + 1 - 1 = b by omega, x1_q, ht]⟩)
  refine S_Mo_worstBy ?_
  try simp only [r0, r1_q, r2, r3, r4, r5_q, r7, r12, r13, r15, r17, r18, r19, r20, r21, r22]
  refine ⟨h.s.o, ⟨4, h.s.k88, by omega, by omega⟩, ?_⟩
  exact qL0 1 _ (by omega) ⟨by decide, by rw [hf 0 (by decide) (by omega)]; rfl⟩
theorem zS_wAt {G : GR} {p o j : Int} {r : Int → Int} (hp : p = 0 ∨ p = 1) (hj : 0 ≤ j ∧ j < nA G (1 - p)) : zS_ (fP G p) r (nQ G p) (o * nA G (1 - p) + j) = wAt G (1 - p) o j r := by
  rw [bW_at hp]
  unfold zS_
  refine zsum_congr _ (fun k _ _ => ?_)
  rw [fP_at hj, Int.mul_comm]
  rfl
theorem tHi_w {G : GR} {p o : Int} {r : Int → Int} (hp : p = 0 ∨ p = 1) (ha_q : 1 ≤ nA G (1 - p)) : tHi (nQ G p) (nA G (1 - p)) (fP G p) r o = zhi (nA G (1 - p) - 1).toNat (fun j => wAt G (1 - p) o j r) := zhi_congr _ (fun j j0 j1 => zS_wAt hp ⟨j0, by omega⟩)
theorem tLo_w {G : GR} {p o : Int} {r : Int → Int} (hp : p = 0 ∨ p = 1) (ha_q : 1 ≤ nA G (1 - p)) : tLo (nQ G p) (nA G (1 - p)) (fP G p) r o = zlo (nA G (1 - p) - 1).toNat (fun j => wAt G (1 - p) o j r) := zlo_congr _ (fun j j0 j1 => zS_wAt hp ⟨j0, by omega⟩)
theorem zlo_bd2 {C D : Int} {f : Int → Int} (n : Nat) (h : ∀ i : Int, 0 ≤ i → i ≤ n → C ≤ f i ∧ f i ≤ D) : C ≤ zlo n f ∧ zlo n f ≤ D := by
  obtain ⟨j, j0, j1, e⟩ := zlo_at (h := f) n
  rw [e]; exact h j j0 j1
theorem tHi_b {G : GR} (ho : GOK G) {p o : Int} {r : Int → Int} (hp : p = 0 ∨ p = 1) (ha_q : 1 ≤ nA G (1 - p)) : (0 ≤ tHi (nQ G p) (nA G (1 - p)) (fP G p) r o ∧ tHi (nQ G p) (nA G (1 - p)) (fP G p) r o ≤ 45) ∧ 0 ≤ tLo (nQ G p) (nA G (1 - p)) (fP G p) r o ∧ tLo (nQ G p) (nA G (1 - p)) (fP G p) r o ≤ 45 := by
  rw [tHi_w hp ha_q, tLo_w hp ha_q]
  exact ⟨zhi_bd2 _ (fun j _ _ => wAt_in ho _ _ _ _), zlo_bd2 _ (fun j _ _ => wAt_in ho _ _ _ _)⟩
theorem c_Mo_reached {d : Nat} {kd : ZK} {m : ZM} {G : GR} {p w : Int} (h : MG kd m G) (hp : p = 0 ∨ p = 1) (hr : isRw G p (m (rM p))) (hga : 1 ≤ nA G (1 - p)) : CtI (d + 5) M_Mo_reached [(2, 78), (0, p), (0, w)] kd m (fun x m1_q => x = (if w = 0 then tLow (nQ G p) (nQ G (1 - p)) (nA G (1 - p)) (fP G p) (m (rM p)) else tHigh (nQ G p) (nQ G (1 - p)) (nA G (1 - p)) (fP G p) (m (rM p))) ∧ ∀ c, c ≠ 88 → m1_q c = m c) := by
  have r0 := h.s.r0
  have r1_q := h.s.r1
  have r2 := h.s.r2
  have r3 := h.s.r3
  have r4 := h.s.r4
  have r5_q := h.s.r5
  have r7 := h.s.r7
  have r12 := h.s.r12
  have r13 := h.s.r13
  have r15 := h.s.r15
  have r17 := h.s.r17
  have r18 := h.s.r18
  have r19 := h.s.r19
  have r20 := h.s.r20
  have r21 := h.s.r21
  have r22 := h.s.r22
  have hok := h.ok.1
  have hq0 : nQ G 0 = G 0 := rfl
  have hq1 : nQ G 1 = G 1 := rfl
  have ha0 : nA G 0 = G 2 := rfl
  have ha1 : nA G 1 = G 3 := rfl
  have n2_q := h.ok.q (1 - p)
  have hri := rM_in p
  have qL0 := zfor2 (nQ G (1 - p)) (fun (o : Int) (mm : ZM) (t : Int) => Ev (d + 5) M_Mo_reached 0 0 5 [(2, 78), (0, p), (0, w), (0, t), (0, o)] [] kd mm (zqI kd (fun x m1_q => x = (if w = 0 then tLow (nQ G p) (nQ G (1 - p)) (nA G (1 - p)) (fP G p) (m (rM p)) else tHigh (nQ G p) (nQ G (1 - p)) (nA G (1 - p)) (fP G p) (m (rM p))) ∧ ∀ c, c ≠ 88 → m1_q c = m c))) (fun (o : Int) (mm : ZM) (t : Int) => 0 ≤ o ∧ (∀ c, c ≠ 88 → mm c = m c) ∧ t = zsum o.toNat (fun o => if w = 0 then tLo (nQ G p) (nA G (1 - p)) (fP G p) (m (rM p)) o else tHi (nQ G p) (nA G (1 - p)) (fP G p) (m (rM p)) o) ∧ 0 ≤ t ∧ t ≤ 45 * o) (by
    intro o mm t hb_q hI0 qKL0
    obtain ⟨ho0, hF, ht, t0_q, t1_q⟩ := hI0
    have hm_q : MG kd mm G := h.fr (hF 78 (by decide)) (hF 79 (by decide))
    have er : mm (rM p) = m (rM p) := hF _ (by omega)
    have hb_q := tHi_b h.ok (p := p) (o := o) (r := m (rM p)) hp hga
    refine T_Mo_reached_5 ?_
    try simp only [hm_q.s.r0, hm_q.s.r1, hm_q.s.r2, hm_q.s.r3, hm_q.s.r4, hm_q.s.r5, hm_q.s.r7, hm_q.s.r12, hm_q.s.r13, hm_q.s.r15, hm_q.s.r17, hm_q.s.r18, hm_q.s.r19, hm_q.s.r20, hm_q.s.r21, hm_q.s.r22]
    rw [iw_s (x := 1 - p) (by omega) (by omega)]
    refine ⟨h.s.o, _, c_Mo_questions hm_q (by omega), ?_⟩
    rintro _ _ ⟨rfl, rfl⟩
    try simp only [hm_q.s.r0, hm_q.s.r1, hm_q.s.r2, hm_q.s.r3, hm_q.s.r4, hm_q.s.r5, hm_q.s.r7, hm_q.s.r12, hm_q.s.r13, hm_q.s.r15, hm_q.s.r17, hm_q.s.r18, hm_q.s.r19, hm_q.s.r20, hm_q.s.r21, hm_q.s.r22]
    refine ⟨fun qc_1 => ?_, fun qc_1 => ?_⟩
    · skip
      refine ⟨?_, hF⟩
      rw [ht, show o = nQ G (1 - p) by omega]
      split <;> rfl
    · skip
      refine ⟨h.s.o, _, c_Mo_laysBy hm_q hp (by rw [er]; exact hr) ⟨ho0, by omega⟩, ?_⟩
      rintro m6_q ⟨f6_q, b6⟩
      rw [er] at b6
      have hm6 : MG kd m6_q G := hm_q.fr (f6_q 78 (by decide)) (f6_q 79 (by decide))
      have hF6 : ∀ c, c ≠ 88 → m6_q c = m c := fun c hc_q => by rw [f6_q c hc_q, hF c hc_q]
      refine ⟨fun qc_2 => ?_, fun qc_2 => ?_⟩
      · skip
        refine ⟨h.s.o, _, c_Mo_worstBy hm6 hp b6 hga, ?_⟩
        rintro _ _ ⟨rfl, rfl⟩
        try simp only [hm_q.s.r0, hm_q.s.r1, hm_q.s.r2, hm_q.s.r3, hm_q.s.r4, hm_q.s.r5, hm_q.s.r7, hm_q.s.r12, hm_q.s.r13, hm_q.s.r15, hm_q.s.r17, hm_q.s.r18, hm_q.s.r19, hm_q.s.r20, hm_q.s.r21, hm_q.s.r22]
        rw [← tLo_w hp hga]
        rw [iw_s (x := o + 1) (by omega) (by omega)]
        rw [iw_s (by omega) (by omega)]
        first | exact qKL0 m6_q _ (by omega) ⟨by omega, hF6, by rw [zsum_1 ho0, ← ht, if_pos qc_2], by omega, by omega⟩ | exact qKL0 m6_q _ (by omega) ⟨by omega, hF6, by rw [zsum_1 ho0, ← ht, if_neg qc_2], by omega, by omega⟩
      · skip
        refine ⟨h.s.o, _, c_Mo_bestBy hm6 hp b6 hga (fun b _ _ => (wAt_in h.ok _ _ _ _).1), ?_⟩
        rintro _ _ ⟨rfl, rfl⟩
        try simp only [hm_q.s.r0, hm_q.s.r1, hm_q.s.r2, hm_q.s.r3, hm_q.s.r4, hm_q.s.r5, hm_q.s.r7, hm_q.s.r12, hm_q.s.r13, hm_q.s.r15, hm_q.s.r17, hm_q.s.r18, hm_q.s.r19, hm_q.s.r20, hm_q.s.r21, hm_q.s.r22]
        rw [← tHi_w hp hga]
        rw [iw_s (x := o + 1) (by omega) (by omega)]
        rw [iw_s (by omega) (by omega)]
        first | exact qKL0 m6_q _ (by omega) ⟨by omega, hF6, by rw [zsum_1 ho0, ← ht, if_pos qc_2], by omega, by omega⟩ | exact qKL0 m6_q _ (by omega) ⟨by omega, hF6, by rw [zsum_1 ho0, ← ht, if_neg qc_2], by omega, by omega⟩)
  refine S_Mo_reached ?_
  try simp only [r0, r1_q, r2, r3, r4, r5_q, r7, r12, r13, r15, r17, r18, r19, r20, r21, r22]
  exact qL0 0 m 0 (by omega) ⟨by decide, fun _ _ => rfl, rfl, by decide, by decide⟩
