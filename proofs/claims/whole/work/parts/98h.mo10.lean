/-! THE MODEL, tenth: one bit told -/
theorem zshr_v {S : Int} (h : 0 ≤ S ∧ S ≤ 2147483647) (q : Fin 32) : zshr S (q.1 : Int) = S / 2 ^ q.1 := by
  have e : ((Int32.ofInt (q.1 : Int) &&& 31).toBitVec.smod 32#32).toNat = q.1 := by
    revert q; decide +kernel
  have e2_q : zshr S (q.1 : Int) = (BitVec.sshiftRight' (Int32.ofInt S).toBitVec ((Int32.ofInt (q.1 : Int) &&& 31).toBitVec.smod 32#32)).toInt := rfl
  rw [e2_q, BitVec.toInt_sshiftRight', e, Int32.toInt_toBitVec, zi_toInt ⟨by omega, h.2⟩, Int.shiftRight_eq_div_pow]
  simp
theorem zand_1 {x : Int} (h : 0 ≤ x ∧ x ≤ 2147483647) : zand x 1 = x % 2 := by
  have e1_q : (Int32.ofInt x).toBitVec.toInt = x := by rw [Int32.toInt_toBitVec, zi_toInt ⟨by omega, h.2⟩]
  have e2_q : ((Int32.ofInt x).toBitVec.toNat : Int) = x := by
    have hb_q := (Int32.ofInt x).toBitVec.isLt
    have hc_q := BitVec.toInt_eq_toNat_cond (Int32.ofInt x).toBitVec
    split at hc_q <;> omega
  have e3_q : zand x 1 = ((Int32.ofInt x).toBitVec &&& 1#32).toInt := rfl
  have e4_q : ((Int32.ofInt x).toBitVec &&& 1#32).toNat = (Int32.ofInt x).toBitVec.toNat % 2 := by
    rw [BitVec.toNat_and]
    exact Nat.and_one_is_mod _
  rw [e3_q, BitVec.toInt_eq_toNat_cond, e4_q]
  split <;> omega
theorem zbit_v {S q : Int} (h : 0 ≤ S ∧ S ≤ 2147483647) (h0 : 0 ≤ q) (h1 : q < 32) : zand (zshr S q) 1 = S / 2 ^ q.toNat % 2 := by
  obtain ⟨k, hk⟩ := fin_of (n := 32) (x := q) ⟨h0, by omega⟩
  subst hk
  rw [zshr_v h k]
  have hp : (0 : Int) < 2 ^ k.1 := Int.pow_pos (by decide)
  have h3 := Int.ediv_nonneg h.1 (show (0 : Int) ≤ 2 ^ k.1 by omega)
  have h4 := Int.ediv_le_self ((2 : Int) ^ k.1) h.1
  rw [zand_1 ⟨h3, by omega⟩]
  rfl
/-- who is told the other bit -/
theorem sbit_c {n S : Int} (hn : 0 ≤ n ∧ n ≤ 5) (hS_q : 0 ≤ S ∧ S < 2 ^ n.toNat) {q : Int} (hq : 0 ≤ q ∧ q < n) : sbit (2 ^ n.toNat - 1 - S) q ↔ zand (zshr S q) 1 = 0 := by
  have hp : (2 : Int) ^ n.toNat ≤ 32 := by
    rcases (show n = 0 ∨ n = 1 ∨ n = 2 ∨ n = 3 ∨ n = 4 ∨ n = 5 by omega) with e | e | e | e | e | e <;> rw [e] <;> decide
  unfold sbit
  rw [zbit_v ⟨by omega, by omega⟩ hq.1 (by omega), zbit_v ⟨by omega, by omega⟩ hq.1 (by omega)]
  rcases (show q = 0 ∨ q = 1 ∨ q = 2 ∨ q = 3 ∨ q = 4 by omega) with f | f | f | f | f <;> subst f <;> rcases (show n = 1 ∨ n = 2 ∨ n = 3 ∨ n = 4 ∨ n = 5 by omega) with e | e | e | e | e <;> (try omega) <;> subst e <;> simp only [show (Int.toNat 0) = 0 from rfl, show (Int.toNat 1) = 1 from rfl, show (Int.toNat 2) = 2 from rfl, show (Int.toNat 3) = 3 from rfl, show (Int.toNat 4) = 4 from rfl, show (Int.toNat 5) = 5 from rfl, show (2 : Int) ^ 0 = 1 from rfl, show (2 : Int) ^ 1 = 2 from rfl, show (2 : Int) ^ 2 = 4 from rfl, show (2 : Int) ^ 3 = 8 from rfl, show (2 : Int) ^ 4 = 16 from rfl, show (2 : Int) ^ 5 = 32 from rfl] at hS_q ⊢ <;> omega
/-- what a row brings, of those questions of which a bit is told -/
noncomputable def tbS (G : GR) (S t y b : Int) (r : Int → Int) : Int := zsum (G 0).toNat fun x => zite (zand (zshr S x) 1 = t) (gW G x y * gV G x y (r x) b) 0
noncomputable def tbY (G : GR) (S t y : Int) (r : Int → Int) : Int := zhi (G 3 - 1).toNat fun b => tbS G S t y b r
noncomputable def tbW (G : GR) (S : Int) (r : Int → Int) : Int := zsum (G 1).toNat fun y => tbY G S 0 y r + tbY G S 1 y r
theorem tbS_in {G : GR} (ho : GOK G) (S t y b : Int) (r : Int → Int) : 0 ≤ tbS G S t y b r ∧ tbS G S t y b r ≤ 45 := by
  have h0 := ho.1
  have := zsum_le (C := 9) (f := fun x => zite (zand (zshr S x) 1 = t) (gW G x y * gV G x y (r x) b) 0) (by decide) (fun x => by
    have h : 0 ≤ gW G x y * gV G x y (r x) b ∧ gW G x y * gV G x y (r x) b ≤ 9 := zmul_in (A := 9) (B := 1) (ho.gW x y) (ho.gV _ _ _ _)
    rcases Classical.em (zand (zshr S x) 1 = t) with q | q
    · rw [zite_t q]; exact h
    · rw [zite_f q]; omega) (G 0).toNat
  unfold tbS
  omega
theorem tbY_in {G : GR} (ho : GOK G) (S t y : Int) (r : Int → Int) : 0 ≤ tbY G S t y r ∧ tbY G S t y r ≤ 45 := zhi_bd2 _ (fun b _ _ => tbS_in ho S t y b r)
/-- of some questions alone -/
theorem tbY_H {G : GR} (S : Int) (r : Int → Int) (y : Int) (h3 : 1 ≤ G 3) (h0 : 0 ≤ G 0) : tHi (cnt S (G 0)) (G 3) (fS G 0 S (G 0)) (fun k => r (sel S (G 0).toNat k)) y = zhi (G 3 - 1).toNat (fun b => zsum (G 0).toNat fun x => zite (sbit S x) (gW G x y * gV G x y (r x) b) 0) := by
  refine zhi_congr _ (fun b b0 b1 => ?_)
  unfold zS_ fS
  have e := sel_sum (S := S) (fun q => fP G 0 q (r q) (y * G 3 + b)) (G 0).toNat
  rw [show (((G 0).toNat : Nat) : Int) = G 0 by omega] at e
  rw [e]
  refine zsum_congr _ (fun x _ _ => ?_)
  have e2_q : fP G 0 x (r x) (y * G 3 + b) = gW G x y * gV G x y (r x) b := fP_at (G := G) (p := 0) (show 0 ≤ b ∧ b < nA G (1 - 0) from ⟨b0, by show b < G 3; omega⟩)
  rw [e2_q]
theorem tbW_H {G : GR} (ho : GOK G) (ht : 0 < G 0) {S : Int} (hS_q : 0 ≤ S ∧ S < 2 ^ (G 0).toNat) (r : Int → Int) : tbW G S r = tHigh (cnt (2 ^ (G 0).toNat - 1 - S) (G 0)) (G 1) (G 3) (fS G 0 (2 ^ (G 0).toNat - 1 - S) (G 0)) (fun k => r (sel (2 ^ (G 0).toNat - 1 - S) (G 0).toNat k)) + tHigh (cnt S (G 0)) (G 1) (G 3) (fS G 0 S (G 0)) (fun k => r (sel S (G 0).toNat k)) := by
  have h0 := ho.1
  have h1 := ho.2.1 ht
  unfold tbW tHigh
  rw [← zsum_add]
  refine zsum_congr _ (fun y _ _ => ?_)
  rw [tbY_H _ r y (by omega) (by omega), tbY_H _ r y (by omega) (by omega)]
  unfold tbY tbS
  rw [zhi_congr _ (fun b _ _ => zsum_congr (G 0).toNat (fun x x0_q x1_q => show zite (zand (zshr S x) 1 = 0) (gW G x y * gV G x y (r x) b) 0 = zite (sbit (2 ^ (G 0).toNat - 1 - S) x) (gW G x y * gV G x y (r x) b) 0 from by
    have hb_q := sbit_c h0.1 hS_q (q := x) ⟨x0_q, by omega⟩
    rcases Classical.em (zand (zshr S x) 1 = 0) with q | q
    · rw [zite_t q, zite_t (hb_q.2 q)]
    · rw [zite_f q, zite_f (fun z => q (hb_q.1 z))]))]
  rfl
/-- the most over all rows -/
theorem tbW_most {G : GR} (ho : GOK G) (ht : 0 < G 0) {k : Int} (hk : 0 ≤ k ∧ 2 * k < 2 ^ (G 0).toNat) : zhi (G 2 ^ (G 0).toNat - 1).toNat (fun c => tbW G (2 * k) (erow (G 0) (G 2) c)) = tkf G k := by
  have h0 := ho.1
  have h1 := ho.2.1 ht
  have ha_q : 0 < G 2 := by omega
  have hS_q : 0 ≤ 2 * k ∧ 2 * k < 2 ^ (G 0).toNat := by omega
  have hp : (0 : Int) < G 2 ^ (G 0).toNat := Int.pow_pos ha_q
  have n1_q := cnt_in (S := 2 * k) (G 0) (by omega)
  have n2_q := cnt_in (S := 2 ^ (G 0).toNat - 1 - 2 * k) (G 0) (by omega)
  have m1_q := tkV_M ha_q (2 * k) n1_q.1
  have m2_q := tkV_M ha_q (2 ^ (G 0).toNat - 1 - 2 * k) n2_q.1
  have hrw : ∀ (S : Int) (r : Int → Int), zrw (G 0) (G 2) r → zrw (cnt S (G 0)) (G 2) (fun j => r (sel S (G 0).toNat j)) := fun S r hr j j0 j1 => by
    have := sel_in (S := S) (G 0).toNat j j0 (by rw [show (((G 0).toNat : Nat) : Int) = G 0 by omega]; exact j1)
    exact hr _ this.1.1 (by omega)
  refine Int.le_antisymm ?_ ?_
  · obtain ⟨c, qc_0, qc_1, e⟩ := zhi_at (h := fun c => tbW G (2 * k) (erow (G 0) (G 2) c)) (G 2 ^ (G 0).toNat - 1).toNat
    rw [e, tbW_H ho ht hS_q]
    unfold tkf
    have a1_q := m1_q.2.1 _ (hrw (2 * k) _ (erow_rw c ha_q))
    have a2 := m2_q.2.1 _ (hrw (2 ^ (G 0).toNat - 1 - 2 * k) _ (erow_rw c ha_q))
    omega
  · have g1 : ∃ r, zrw (cnt (2 * k) (G 0)) (G 2) r ∧ tkV G (2 * k) ≤ tHigh (cnt (2 * k) (G 0)) (G 1) (G 3) (fS G 0 (2 * k) (G 0)) r := by
      rcases m1_q.2.2 with q | ⟨r, r1_q, r2⟩
      · exact ⟨fun _ => 0, fun _ _ _ => ⟨Int.le_refl _, ha_q⟩, by rw [q]; exact tHigh_nn (fun q a i => (fP_in ho 0 _ _ _).1)⟩
      · exact ⟨r, r1_q, by rw [r2]; exact Int.le_refl _⟩
    have g2 : ∃ r, zrw (cnt (2 ^ (G 0).toNat - 1 - 2 * k) (G 0)) (G 2) r ∧ tkV G (2 ^ (G 0).toNat - 1 - 2 * k) ≤ tHigh (cnt (2 ^ (G 0).toNat - 1 - 2 * k) (G 0)) (G 1) (G 3) (fS G 0 (2 ^ (G 0).toNat - 1 - 2 * k) (G 0)) r := by
      rcases m2_q.2.2 with q | ⟨r, r1_q, r2⟩
      · exact ⟨fun _ => 0, fun _ _ _ => ⟨Int.le_refl _, ha_q⟩, by rw [q]; exact tHigh_nn (fun q a i => (fP_in ho 0 _ _ _).1)⟩
      · exact ⟨r, r1_q, by rw [r2]; exact Int.le_refl _⟩
    obtain ⟨r, r1_q, r2⟩ := g1
    obtain ⟨t, t1_q, t2_q⟩ := g2
    have hcb : ∀ q, 0 ≤ q → q < G 0 → (¬ sbit (2 * k) q ↔ sbit (2 ^ (G 0).toNat - 1 - 2 * k) q) := fun q q0 q1_q => by
      rw [sbit_c h0.1 hS_q ⟨q0, q1_q⟩]
      exact sbit_01 (show b32 (2 * k) from ⟨by omega, by
        have hp5 : (2 : Int) ^ (G 0).toNat ≤ 32 := by
          rcases (show G 0 = 1 ∨ G 0 = 2 ∨ G 0 = 3 ∨ G 0 = 4 ∨ G 0 = 5 by omega) with e | e | e | e | e <;> rw [e] <;> decide
        omega⟩) ⟨q0, by omega⟩
    have hcr : ∀ (S q : Int), 0 ≤ q → q < G 0 → sbit S q → cnt S q < cnt S (G 0) := fun S q q0 q1_q hq => by
      have e1_q := cnt_1 (S := S) q0
      rw [zb_t hq] at e1_q
      have e2_q : cnt S (q + 1) ≤ cnt S (G 0) := by
        unfold cnt
        have e3_q : (G 0).toNat = (q + 1).toNat + (G 0 - (q + 1)).toNat := by omega
        rw [e3_q, zsum_cat]
        have := zsum_nn (f := fun i => zb (sbit S (((q + 1).toNat : Int) + i))) (G 0 - (q + 1)).toNat (fun i _ _ => zb_01.1)
        omega
      omega
    have hcn : ∀ (S q : Int), 0 ≤ q → 0 ≤ cnt S q := fun S q q0 => (cnt_in (S := S) q q0).1
    obtain ⟨c, qc_0, qc_1, qc_2⟩ := erow_all (nq := G 0) ha_q (r := fun q => zite (sbit (2 * k) q) (r (cnt (2 * k) q)) (t (cnt (2 ^ (G 0).toNat - 1 - 2 * k) q))) (fun q q0 q1_q => by
      rcases Classical.em (sbit (2 * k) q) with hq | hq
      · simp only [zite_t hq]
        exact r1_q _ (hcn _ _ q0) (hcr _ _ q0 q1_q hq)
      · simp only [zite_f hq]
        exact t1_q _ (hcn _ _ q0) (hcr _ _ q0 q1_q ((hcb q q0 q1_q).1 hq)))
    have hle := zhi_le (h := fun c => tbW G (2 * k) (erow (G 0) (G 2) c)) (G 2 ^ (G 0).toNat - 1).toNat c qc_0 (by omega)
    refine Int.le_trans ?_ hle
    rw [tbW_H ho ht hS_q]
    have s1_q : tHigh (cnt (2 * k) (G 0)) (G 1) (G 3) (fS G 0 (2 * k) (G 0)) (fun j => erow (G 0) (G 2) c (sel (2 * k) (G 0).toNat j)) = tHigh (cnt (2 * k) (G 0)) (G 1) (G 3) (fS G 0 (2 * k) (G 0)) r := tHigh_congr (fun j j0 j1 => by
      have hs := sel_in (S := 2 * k) (G 0).toNat j j0 (by rw [show (((G 0).toNat : Nat) : Int) = G 0 by omega]; exact j1)
      rw [qc_2 _ hs.1.1 (by omega), zite_t hs.2.1, hs.2.2])
    have s2_q : tHigh (cnt (2 ^ (G 0).toNat - 1 - 2 * k) (G 0)) (G 1) (G 3) (fS G 0 (2 ^ (G 0).toNat - 1 - 2 * k) (G 0)) (fun j => erow (G 0) (G 2) c (sel (2 ^ (G 0).toNat - 1 - 2 * k) (G 0).toNat j)) = tHigh (cnt (2 ^ (G 0).toNat - 1 - 2 * k) (G 0)) (G 1) (G 3) (fS G 0 (2 ^ (G 0).toNat - 1 - 2 * k) (G 0)) t := tHigh_congr (fun j j0 j1 => by
      have hs := sel_in (S := 2 ^ (G 0).toNat - 1 - 2 * k) (G 0).toNat j j0 (by rw [show (((G 0).toNat : Nat) : Int) = G 0 by omega]; exact j1)
      have hlt : sel (2 ^ (G 0).toNat - 1 - 2 * k) (G 0).toNat j < G 0 := by omega
      rw [qc_2 _ hs.1.1 hlt, zite_f ((hcb _ hs.1.1 hlt).2 hs.2.1), hs.2.2])
    rw [s1_q, s2_q]
    unfold tkf
    omega
theorem c_Mo_toldWorth {d : Nat} {kd : ZK} {m : ZM} {G : GR} {S : Int} (h : MG kd m G) (ht : 0 < G 0) (hr : isRw G 0 (m 86)) : CtI (d + 4) M_Mo_toldWorth [(2, 78), (0, S)] kd m (qE m (tbW G S (m 86))) := by
  have r0 := h.s.r0
  have r1_q := h.s.r1
  have r2 := h.s.r2
  have r3 := h.s.r3
  have r4 := h.s.r4
  have r5_q := h.s.r5
  have r7 := h.s.r7
  have r12 := h.s.r12
  have r13 := h.s.r13
  have r15 := h.s.r15
  have r17 := h.s.r17
  have r18 := h.s.r18
  have r19 := h.s.r19
  have r20 := h.s.r20
  have r21 := h.s.r21
  have r22 := h.s.r22
  have hok := h.ok.1
  have hq0 : nQ G 0 = G 0 := rfl
  have hq1 : nQ G 1 = G 1 := rfl
  have ha0 : nA G 0 = G 2 := rfl
  have ha1 : nA G 1 = G 3 := rfl
  have hto : 0 < G 0 := ht
  have tA := fun p => h.ok.tA hto p
  have tQ := fun p => h.ok.tQ hto p
  have r0 := rM0
  have r1_q := rM1
  have tA1 := tA 1
  have qL0 := zfor1 (G 1) (fun (y : Int) (a : Int) => Ev (d + 4) M_Mo_toldWorth 0 0 4 [(2, 78), (0, S), (0, a), (0, y), zJ, zJ, zJ, zJ, zJ] [] kd m (zqI kd (qE m (tbW G S (m 86))))) (fun (y : Int) (a : Int) => 0 ≤ y ∧ a = zsum y.toNat (fun y => tbY G S 0 y (m 86) + tbY G S 1 y (m 86)) ∧ 0 ≤ a ∧ a ≤ 90 * y) (by
    intro y a hb_q hI0 qKL0
    obtain ⟨hy0, ha_, a0_q, a1_q⟩ := hI0
    have b0 := tbY_in h.ok S 0 y (m 86)
    have b1 := tbY_in h.ok S 1 y (m 86)
    have qL1 := zfor1 (2) (fun (t : Int) (e : Int) => Ev (d + 4) M_Mo_toldWorth 0 0 16 [(2, 78), (0, S), (0, e), (0, y), (0, t), zJ, zJ, zJ, zJ] [] kd m (zqI kd (qE m (tbW G S (m 86))))) (fun (t : Int) (e : Int) => (0 ≤ t ∧ y < G 1) ∧ (t = 0 → e = a) ∧ (t = 1 → e = a + tbY G S 0 y (m 86)) ∧ (t = 2 → e = a + (tbY G S 0 y (m 86) + tbY G S 1 y (m 86)))) (by
      intro t e hb_q hI1 qKL1
      obtain ⟨⟨ht0, hyl⟩, e0_q, e1_q, e2_q⟩ := hI1
      have qL2 := zfor1 (G 3) (fun (b : Int) (f : Int) => Ev (d + 4) M_Mo_toldWorth 0 0 28 [(2, 78), (0, S), (0, e), (0, y), (0, t), (0, f), (0, b), zJ, zJ] [] kd m (zqI kd (qE m (tbW G S (m 86))))) (fun (b : Int) (f : Int) => (0 ≤ b ∧ t < 2) ∧ f = hi0 (fun b => tbS G S t y b (m 86)) b.toNat) (by
        intro b f hb_q hI2 qKL2
        obtain ⟨⟨hb0, htl⟩, hf⟩ := hI2
        have h1 := hi0_1 (f := fun b => tbS G S t y b (m 86)) hb0
        try simp only [] at h1
        have qL3 := zfor1 (G 0) (fun (x : Int) (s : Int) => Ev (d + 4) M_Mo_toldWorth 0 0 44 [(2, 78), (0, S), (0, e), (0, y), (0, t), (0, f), (0, b), (0, s), (0, x)] [] kd m (zqI kd (qE m (tbW G S (m 86))))) (fun (x : Int) (s : Int) => (0 ≤ x ∧ b < G 3) ∧ s = zsum x.toNat (fun x => zite (zand (zshr S x) 1 = t) (gW G x y * gV G x y (m 86 x) b) 0) ∧ 0 ≤ s ∧ s ≤ 9 * x) (by
          intro x s hb_q hI3 qKL3
          obtain ⟨⟨hx0, hbl⟩, hs, s0_q, s1_q⟩ := hI3
          have x1_q := zsum_1 hx0 (fun x => zite (zand (zshr S x) 1 = t) (gW G x y * gV G x y (m 86 x) b) 0)
          try simp only [] at x1_q
          have hw := h.ok.gW x y
          have r1_q := fun e => hr x hx0 e
          refine T_Mo_toldWorth_44 ?_
          try simp only [r0, r1_q, r2, r3, r4, r5_q, r7, r12, r13, r15, r17, r18, r19, r20, r21, r22]
          refine ⟨h.s.o, _, c_Mo_questions h (Or.inl rfl), ?_⟩
          rintro _ _ ⟨rfl, rfl⟩
          try simp only [r0, r1_q, r2, r3, r4, r5_q, r7, r12, r13, r15, r17, r18, r19, r20, r21, r22]
          refine ⟨fun qc_1 => ?_, fun qc_1 => ?_⟩
          · skip
            rw [iw_s (x := b + 1) (by omega) (by omega)]
            exact qKL2 _ (by omega) ⟨⟨by omega, htl⟩, by rw [h1, ← hf, hs, show x = G 0 by omega]; rfl⟩
          · skip
            refine ⟨fun qc_2 => ?_, fun qc_2 => ?_⟩
            · skip
              rw [iw_s (x := x + 1) (by omega) (by omega)]
              first | (rw [zite_f qc_2, Int.add_zero] at x1_q; rw [iw_s (x := s + 0) (by omega) (by omega)]; exact qKL3 _ (by omega) ⟨⟨by omega, hbl⟩, by rw [x1_q, ← hs, Int.add_zero], by omega, by omega⟩) | (have hv : gV G x y (m 86 x) b = 0 := (by have q1_q := h.ok.gV x y (m 86 x) b; have q2_q := zb_eq0.1 qc_3; omega); rw [zite_t (Classical.not_not.1 qc_2), hv, Int.mul_zero, Int.add_zero] at x1_q; rw [iw_s (x := s + 0) (by omega) (by omega)]; exact qKL3 _ (by omega) ⟨⟨by omega, hbl⟩, by rw [x1_q, ← hs, Int.add_zero], by omega, by omega⟩) | (have hv : gV G x y (m 86 x) b = 1 := zb_ne0.1 qc_3; rw [zite_t (Classical.not_not.1 qc_2), hv, Int.mul_one] at x1_q; rw [iw_s (x := s + gW G x y) (by omega) (by omega)]; exact qKL3 _ (by omega) ⟨⟨by omega, hbl⟩, by rw [x1_q, ← hs], by omega, by omega⟩)
            · skip
              refine ⟨h.s.o, ⟨5, h.s.k86, by omega, by omega⟩, ?_⟩
              refine ⟨h.s.o, _, c_Mo_isWin h (by omega) (by omega) (by have := r1_q (by omega); omega) (by omega), ?_⟩
              rintro _ _ ⟨rfl, rfl⟩
              try simp only [r0, r1_q, r2, r3, r4, r5_q, r7, r12, r13, r15, r17, r18, r19, r20, r21, r22]
              refine ⟨fun qc_3 => ?_, fun qc_3 => ?_⟩
              · skip
                rw [iw_s (x := x + 1) (by omega) (by omega)]
                first | (rw [zite_f qc_2, Int.add_zero] at x1_q; rw [iw_s (x := s + 0) (by omega) (by omega)]; exact qKL3 _ (by omega) ⟨⟨by omega, hbl⟩, by rw [x1_q, ← hs, Int.add_zero], by omega, by omega⟩) | (have hv : gV G x y (m 86 x) b = 0 := (by have q1_q := h.ok.gV x y (m 86 x) b; have q2_q := zb_eq0.1 qc_3; omega); rw [zite_t (Classical.not_not.1 qc_2), hv, Int.mul_zero, Int.add_zero] at x1_q; rw [iw_s (x := s + 0) (by omega) (by omega)]; exact qKL3 _ (by omega) ⟨⟨by omega, hbl⟩, by rw [x1_q, ← hs, Int.add_zero], by omega, by omega⟩) | (have hv : gV G x y (m 86 x) b = 1 := zb_ne0.1 qc_3; rw [zite_t (Classical.not_not.1 qc_2), hv, Int.mul_one] at x1_q; rw [iw_s (x := s + gW G x y) (by omega) (by omega)]; exact qKL3 _ (by omega) ⟨⟨by omega, hbl⟩, by rw [x1_q, ← hs], by omega, by omega⟩)
              · skip
                refine ⟨h.s.o, _, c_Mo_weightOf h (by omega) (by omega), ?_⟩
                rintro _ _ ⟨rfl, rfl⟩
                try simp only [r0, r1_q, r2, r3, r4, r5_q, r7, r12, r13, r15, r17, r18, r19, r20, r21, r22]
                rw [iw_s (x := x + 1) (by omega) (by omega)]
                first | (rw [zite_f qc_2, Int.add_zero] at x1_q; rw [iw_s (x := s + 0) (by omega) (by omega)]; exact qKL3 _ (by omega) ⟨⟨by omega, hbl⟩, by rw [x1_q, ← hs, Int.add_zero], by omega, by omega⟩) | (have hv : gV G x y (m 86 x) b = 0 := (by have q1_q := h.ok.gV x y (m 86 x) b; have q2_q := zb_eq0.1 qc_3; omega); rw [zite_t (Classical.not_not.1 qc_2), hv, Int.mul_zero, Int.add_zero] at x1_q; rw [iw_s (x := s + 0) (by omega) (by omega)]; exact qKL3 _ (by omega) ⟨⟨by omega, hbl⟩, by rw [x1_q, ← hs, Int.add_zero], by omega, by omega⟩) | (have hv : gV G x y (m 86 x) b = 1 := zb_ne0.1 qc_3; rw [zite_t (Classical.not_not.1 qc_2), hv, Int.mul_one] at x1_q; rw [iw_s (x := s + gW G x y) (by omega) (by omega)]; exact qKL3 _ (by omega) ⟨⟨by omega, hbl⟩, by rw [x1_q, ← hs], by omega, by omega⟩))
        refine T_Mo_toldWorth_28 ?_
        try simp only [r0, r1_q, r2, r3, r4, r5_q, r7, r12, r13, r15, r17, r18, r19, r20, r21, r22]
        refine ⟨h.s.o, _, c_Mo_answers h (Or.inr rfl), ?_⟩
        rintro _ _ ⟨rfl, rfl⟩
        try simp only [r0, r1_q, r2, r3, r4, r5_q, r7, r12, r13, r15, r17, r18, r19, r20, r21, r22]
        refine ⟨fun qc_1 => ?_, fun qc_1 => ?_⟩
        · skip
          have hfY : f = tbY G S t y (m 86) := by
            rw [hf, show b = G 3 by omega, show (G 3).toNat = (G 3 - 1).toNat + 1 by omega, hi0_zhi _ (fun i _ _ => (tbS_in h.ok S t y i (m 86)).1)]
            rfl
          have hfb := tbY_in h.ok S t y (m 86)
          rw [← hfY] at hfb
          have he : 0 ≤ e ∧ e ≤ 1000 := by
            rcases (show t = 0 ∨ t = 1 by omega) with q | q
            · have := e0_q q; omega
            · have := e1_q q; omega
          rw [iw_s (x := e + f) (by omega) (by omega), iw_s (x := t + 1) (by omega) (by omega)]
          refine qKL1 (e + f) (by omega) ⟨⟨by omega, hyl⟩, fun z => absurd z (by omega), fun z => ?_, fun z => ?_⟩
          · have q : t = 0 := by omega
            rw [hfY, e0_q q, q]
          · have q : t = 1 := by omega
            rw [hfY, e1_q q, q]; omega
        · skip
          exact qL3 0 0 (by omega) ⟨⟨by decide, by omega⟩, rfl, by decide, by decide⟩)
      refine T_Mo_toldWorth_16 ?_
      try simp only [r0, r1_q, r2, r3, r4, r5_q, r7, r12, r13, r15, r17, r18, r19, r20, r21, r22]
      refine ⟨fun qc_1 => ?_, fun qc_1 => ?_⟩
      · skip
        rw [iw_s (x := y + 1) (by omega) (by omega)]
        have ee := e2_q (by omega)
        exact qKL0 e (by omega) ⟨by omega, by rw [zsum_1 hy0, ← ha_]; exact ee, by omega, by omega⟩
      · skip
        exact qL2 0 0 (by omega) ⟨⟨by decide, by omega⟩, rfl⟩)
    refine T_Mo_toldWorth_4 ?_
    try simp only [r0, r1_q, r2, r3, r4, r5_q, r7, r12, r13, r15, r17, r18, r19, r20, r21, r22]
    refine ⟨h.s.o, _, c_Mo_questions h (Or.inr rfl), ?_⟩
    rintro _ _ ⟨rfl, rfl⟩
    try simp only [r0, r1_q, r2, r3, r4, r5_q, r7, r12, r13, r15, r17, r18, r19, r20, r21, r22]
    refine ⟨fun qc_1 => ?_, fun qc_1 => ?_⟩
    · skip
      rw [show y = G 1 by omega] at ha_
      exact ⟨ha_, rfl⟩
    · skip
      exact qL1 0 a (by omega) ⟨⟨by decide, by omega⟩, fun _ => rfl, fun z => absurd z (by decide), fun z => absurd z (by decide)⟩)
  refine S_Mo_toldWorth ?_
  try simp only [r0, r1_q, r2, r3, r4, r5_q, r7, r12, r13, r15, r17, r18, r19, r20, r21, r22]
  exact qL0 0 0 (by omega) ⟨by decide, rfl, by decide, by decide⟩
theorem tbW_congr {G : GR} {S : Int} {r s : Int → Int} (h : ∀ q, 0 ≤ q → q < G 0 → r q = s q) : tbW G S r = tbW G S s := by
  unfold tbW tbY tbS
  refine zsum_congr _ (fun y _ _ => ?_)
  rw [zhi_congr _ (fun b _ _ => zsum_congr (G 0).toNat (fun x x0_q x1_q => by rw [h x x0_q (by omega)])), zhi_congr (h := fun b => zsum (G 0).toNat fun x => zite (zand (zshr S x) 1 = 1) (gW G x y * gV G x y (r x) b) 0) _ (fun b _ _ => zsum_congr (G 0).toNat (fun x x0_q x1_q => by rw [h x x0_q (by omega)]))]
/-- where the search stands among the rows of one set -/
def tkS (B0 w0_q k : Int) (T : Int → Int) (i b w : Int) : Prop := (i = 0 → b = B0 ∧ w = w0_q) ∧ (0 < i → (B0 < zhi (i - 1).toNat T → b = zhi (i - 1).toNat T ∧ w = 2 * k) ∧ (¬ B0 < zhi (i - 1).toNat T → b = B0 ∧ w = w0_q))
theorem tkS_no {B0 w0_q k i b w : Int} {T : Int → Int} (h0 : 0 ≤ i) (h : tkS B0 w0_q k T i b w) (hn : T i ≤ b) : tkS B0 w0_q k T (i + 1) b w := by
  refine ⟨fun z => absurd z (by omega), fun _ => ?_⟩
  rw [show i + 1 - 1 = i by omega]
  rcases (show i = 0 ∨ 0 < i by omega) with q | q
  · have a := h.1 q
    have e : zhi i.toNat T = T i := by rw [q]; rfl
    rw [e]
    exact ⟨fun z => absurd z (by omega), fun _ => a⟩
  · have a := h.2 q
    have e := zhi_1 (i := i - 1) (by omega) T
    rw [show i - 1 + 1 = i by omega] at e
    rw [e]
    unfold zmax
    split
    · rename_i hc_q
      rcases Classical.em (B0 < zhi (i - 1).toNat T) with k2_q | k2_q
      · have := a.1 k2_q
        exact ⟨fun _ => ⟨by omega, this.2⟩, fun z => absurd (by omega) z⟩
      · have := a.2 k2_q
        exact ⟨fun z => absurd z (by omega), fun _ => this⟩
    · exact a
theorem tkS_yes {B0 w0_q k i b w : Int} {T : Int → Int} (h0 : 0 ≤ i) (h : tkS B0 w0_q k T i b w) (hn : b < T i) : tkS B0 w0_q k T (i + 1) (T i) (2 * k) := by
  refine ⟨fun z => absurd z (by omega), fun _ => ?_⟩
  rw [show i + 1 - 1 = i by omega]
  rcases (show i = 0 ∨ 0 < i by omega) with q | q
  · have a := h.1 q
    have e : zhi i.toNat T = T i := by rw [q]; rfl
    rw [e]
    exact ⟨fun _ => ⟨rfl, rfl⟩, fun z => absurd (by omega) z⟩
  · have a := h.2 q
    have e := zhi_1 (i := i - 1) (by omega) T
    rw [show i - 1 + 1 = i by omega] at e
    rw [e]
    have hlt : B0 < T i ∧ zhi (i - 1).toNat T < T i := by
      rcases Classical.em (B0 < zhi (i - 1).toNat T) with k2_q | k2_q
      · have := a.1 k2_q; omega
      · have := a.2 k2_q; omega
    unfold zmax
    split <;> exact ⟨fun _ => ⟨by omega, rfl⟩, fun z => absurd (by omega) z⟩
theorem c_Mo_talk {d : Nat} {kd : ZK} {m : ZM} {G : GR} {w : Int} (h : MG kd m G) : CtI (d + 5) M_Mo_talk [(2, 78), (0, w)] kd m (fun v m1_q => v = aTalk G w ∧ MF m m1_q) := by
  have r0 := h.s.r0
  have r1_q := h.s.r1
  have r2 := h.s.r2
  have r3 := h.s.r3
  have r4 := h.s.r4
  have r5_q := h.s.r5
  have r7 := h.s.r7
  have r12 := h.s.r12
  have r13 := h.s.r13
  have r15 := h.s.r15
  have r17 := h.s.r17
  have r18 := h.s.r18
  have r19 := h.s.r19
  have r20 := h.s.r20
  have r21 := h.s.r21
  have r22 := h.s.r22
  have hok := h.ok.1
  have hq0 : nQ G 0 = G 0 := rfl
  have hq1 : nQ G 1 = G 1 := rfl
  have ha0 : nA G 0 = G 2 := rfl
  have ha1 : nA G 1 = G 3 := rfl
  have key : told G → 0 ≤ w → w ≤ 1 → Ev (d + 5) M_Mo_talk 0 0 26 [(2, 78), (0, w), (0, (-1)), (0, 0), (0, 0), zJ, zJ] [] kd m (zqI kd (fun v m1_q => v = aTalk G w ∧ MF m m1_q)) := by
    intro ht hw0 hw1
    have htt := h.ok.2.1 ht
    have hto : 0 < G 0 := ht
    have tA := fun p => h.ok.tA hto p
    have tQ := fun p => h.ok.tQ hto p
    have r0 := rM0
    have r1_q := rM1
    have h2N : (2 : Int) ^ (G 0).toNat = 2 * ((2 : Int) ^ (G 0).toNat / 2) ∧ 2 ≤ (2 : Int) ^ (G 0).toNat ∧ (2 : Int) ^ (G 0).toNat ≤ 32 := by
      rcases (show G 0 = 1 ∨ G 0 = 2 ∨ G 0 = 3 ∨ G 0 = 4 ∨ G 0 = 5 by omega) with q | q | q | q | q <;> rw [q] <;> decide
    have e2_q : zshl 1 (nQ G 0) = (2 : Int) ^ (G 0).toNat := by
      rw [hq0]
      obtain ⟨q, hq⟩ := fin_of (n := 6) (show 0 ≤ G 0 ∧ G 0 < (6 : Nat) by omega)
      rw [← hq, shl1]
      rfl
    have hres : ∀ mo b, amS (tkf G) ((2 : Int) ^ (G 0).toNat / 2) mo b → (w ≠ 0 → 2 * b = aTalk G w) ∧ (¬ w ≠ 0 → mo = aTalk G w) := fun mo b h => by
      have h2 := h.2 (by omega)
      rw [aTalk, zite_t ht, zite_f (show ¬ w < 0 by omega), zite_t hw1]
      exact ⟨fun k => by rw [if_neg k, h2.2], fun k => by rw [if_pos (by omega), h2.1]⟩
    have hmost := fun k hk => tbW_most h.ok hto (k := k) hk
    have hN1 := rows1 h.ok hto 0
    generalize hP2 : (2 : Int) ^ (G 0).toNat = P2_q at *
    have qL0 := zfor3 (P2_q / 2) (fun (k : Int) (mm : ZM) (mo : Int) (b : Int) => Ev (d + 5) M_Mo_talk 0 0 26 [(2, 78), (0, w), (0, mo), (0, (2 * b)), (0, (2 * k)), zJ, zJ] [] kd mm (zqI kd (fun v m1_q => v = aTalk G w ∧ MF m m1_q))) (fun (k : Int) (mm : ZM) (mo : Int) (b : Int) => (0 ≤ k ∧ (k = 0 → b = 0)) ∧ MF m mm ∧ amS (tkf G) k mo b) (by
      intro k mm mo b hb_q hI0 qKL0
      obtain ⟨⟨hk0, hkb⟩, hF, hS_q⟩ := hI0
      have hm_q : MG kd mm G := h.mf hF
      have hf0 : k < P2_q / 2 → 0 ≤ tkf G k := fun hl => by
        have a := tkV_in h.ok (2 * k) (by have := (cnt_in (S := 2 * k) (G 0) (by omega)).2; omega)
        have b := tkV_in h.ok (2 ^ (G 0).toNat - 1 - 2 * k) (by have := (cnt_in (S := 2 ^ (G 0).toNat - 1 - 2 * k) (G 0) (by omega)).2; omega)
        unfold tkf
        omega
      have qL1 := zfor3 ((nA G 0 ^ (nQ G 0).toNat)) (fun (i : Int) (m9_q : ZM) (bo : Int) (wo : Int) => Ev (d + 5) M_Mo_talk 0 0 46 [(2, 78), (0, w), (0, bo), (0, wo), (0, (2 * k)), (0, (zb (i < (nA G 0 ^ (nQ G 0).toNat)))), zJ] [] kd m9_q (zqI kd (fun v m1_q => v = aTalk G w ∧ MF m m1_q))) (fun (i : Int) (m9_q : ZM) (bo : Int) (wo : Int) => (0 ≤ i ∧ k < P2_q / 2) ∧ MF m m9_q ∧ tkS mo (2 * b) k (fun c => tbW G (2 * k) (erow (G 0) (G 2) c)) i bo wo ∧ (i < (nA G 0 ^ (nQ G 0).toNat) → ∀ j, 0 ≤ j → j < nQ G 0 → m9_q (rM 0) j = erow (nQ G 0) (nA G 0) i j)) (by
        intro i m9_q bo wo hb_q hI1 qKL1
        obtain ⟨⟨hi_, hkl⟩, hF9, hT_q, hEE⟩ := hI1
        have hm9 : MG kd m9_q G := h.mf hF9
        refine T_Mo_talk_46 ?_
        refine ⟨fun qc_1 => ?_, fun qc_1 => ?_⟩
        · skip
          have hn : ¬ i < (nA G 0 ^ (nQ G 0).toNat) := zb_eq0.1 qc_1
          have hTT := hT_q.2 (by omega)
          have hmk := hmost k ⟨hk0, by omega⟩
          rw [show i - 1 = (nA G 0 ^ (nQ G 0).toNat) - 1 by omega, show ((nA G 0 ^ (nQ G 0).toNat) - 1).toNat = (G 2 ^ (G 0).toNat - 1).toNat from rfl, hmk] at hTT
          rw [iw_s (x := 2 * k + 2) (by omega) (by omega), show 2 * k + 2 = 2 * (k + 1) by omega]
          rcases Classical.em (mo < tkf G k) with q | q
          · have z := hTT.1 q
            rw [z.1, z.2]
            exact qKL0 m9_q _ k (by omega) ⟨⟨by omega, fun e => absurd e (by omega)⟩, hF9, amS_yes hk0 q hS_q⟩
          · have z := hTT.2 q
            rw [z.1, z.2]
            exact qKL0 m9_q mo b (by omega) ⟨⟨by omega, fun e => absurd e (by omega)⟩, hF9, amS_no hk0 (hf0 hkl) (by omega) hS_q⟩
        · have hlt : i < (nA G 0 ^ (nQ G 0).toNat) := zb_ne0.1 qc_1
          refine ⟨hm9.s.o, _, c_Mo_toldWorth hm9 hto (rwE (p := 0) (by have := tA 0; omega) (hEE hlt)), ?_⟩
          rintro _ _ ⟨rfl, rfl⟩
          have hx : tbW G (2 * k) (m9_q 86) = tbW G (2 * k) (erow (G 0) (G 2) i) := tbW_congr (hEE hlt)
          rw [hx]
          refine ⟨fun qc_2 => ?_, fun qc_2 => ?_⟩
          · skip
            refine ⟨hm9.s.o, _, c_Mo_goesOn (c := i) hm9 (Or.inl rfl) (by have := tA 0; omega) (hEE hlt) ⟨hi_, hlt⟩, ?_⟩
            rintro x5_q m6_q ⟨xg, eg, fg⟩
            rw [xg]
            have Fg : MF m m6_q := hF9.tr (MF.of (fun c hc_q => fg c (by rw [r0]; omega)))
            first | exact qKL1 _ _ _ (by omega) ⟨⟨by omega, hkl⟩, Fg, tkS_no hi_ hT_q qc_2, fun hl2 => eg hl2⟩ | exact qKL1 _ _ _ (by omega) ⟨⟨by omega, hkl⟩, Fg, tkS_yes hi_ hT_q (by omega), fun hl2 => eg hl2⟩
          · skip
            refine ⟨hm9.s.o, _, c_Mo_goesOn (c := i) hm9 (Or.inl rfl) (by have := tA 0; omega) (hEE hlt) ⟨hi_, hlt⟩, ?_⟩
            rintro x8 m9_q ⟨xg, eg, fg⟩
            rw [xg]
            have Fg : MF m m9_q := hF9.tr (MF.of (fun c hc_q => fg c (by rw [r0]; omega)))
            first | exact qKL1 _ _ _ (by omega) ⟨⟨by omega, hkl⟩, Fg, tkS_no hi_ hT_q qc_2, fun hl2 => eg hl2⟩ | exact qKL1 _ _ _ (by omega) ⟨⟨by omega, hkl⟩, Fg, tkS_yes hi_ hT_q (by omega), fun hl2 => eg hl2⟩)
      refine T_Mo_talk_26 ?_
      refine ⟨hm_q.s.o, _, c_Mo_questions hm_q (Or.inl rfl), ?_⟩
      rintro _ _ ⟨rfl, rfl⟩
      rw [e2_q]
      refine ⟨fun qc_1 => ?_, fun qc_1 => ?_⟩
      · skip
        refine ⟨fun qc_2 => ?_, fun qc_2 => ?_⟩
        · skip
          rw [show k = P2_q / 2 by omega] at hS_q
          have hr := hres mo b hS_q
          first | exact ⟨hr.1 qc_2, hF⟩ | exact ⟨hr.2 qc_2, hF⟩
        · skip
          rw [show k = P2_q / 2 by omega] at hS_q
          have hr := hres mo b hS_q
          first | exact ⟨hr.1 qc_2, hF⟩ | exact ⟨hr.2 qc_2, hF⟩
      · skip
        refine ⟨hm_q.s.o, _, c_Mo_laysFirst hm_q, ?_⟩
        rintro m6_q ⟨f6_q, z6⟩
        have F6 : MF m m6_q := hF.tr (MF.of (fun c hc_q => f6_q c (by rw [r0]; omega)))
        have hE6 : ∀ j, 0 ≤ j → j < nQ G 0 → m6_q (rM 0) j = erow (nQ G 0) (nA G 0) 0 j := fun j j0 j1 => by rw [erow_0 j (by have := tA 0; omega)]; exact z6 j j0 (by have := tQ 0; omega)
        have hz1 : (1 : Int) = zb (0 < (nA G 0 ^ (nQ G 0).toNat)) := (zbT (show 0 < (nA G 0 ^ (nQ G 0).toNat) by omega))
        rw [hz1]
        exact qL1 0 m6_q mo (2 * b) (by omega) ⟨⟨by decide, by omega⟩, F6, ⟨fun _ => ⟨rfl, rfl⟩, fun z => absurd z (by decide)⟩, fun _ => hE6⟩)
    exact qL0 0 m (-1) 0 (by omega) ⟨⟨by decide, fun _ => rfl⟩, MF.rf, ⟨fun _ => rfl, fun e => absurd e (by decide)⟩⟩
  refine S_Mo_talk ?_
  try simp only [r0, r1_q, r2, r3, r4, r5_q, r7, r12, r13, r15, r17, r18, r19, r20, r21, r22]
  refine ⟨h.s.o, _, c_Mo_hasGame h, ?_⟩
  rintro _ _ ⟨rfl, rfl⟩
  try simp only [r0, r1_q, r2, r3, r4, r5_q, r7, r12, r13, r15, r17, r18, r19, r20, r21, r22]
  refine ⟨fun qc_1 => ?_, fun qc_1 => ?_⟩
  · replace qc_1 := zb_eq0.1 qc_1
    exact ⟨by rw [aTalk, zite_f (show ¬ told G from qc_1)], MF.rf⟩
  · replace qc_1 := zb_ne0.1 qc_1
    refine ⟨_, c_Mo_in, ?_⟩
    rintro _ _ ⟨rfl, rfl⟩
    try simp only [r0, r1_q, r2, r3, r4, r5_q, r7, r12, r13, r15, r17, r18, r19, r20, r21, r22]
    refine ⟨fun qc_2 => ?_, fun qc_2 => ?_⟩
    · replace qc_2 := zb_ne0.1 qc_2
      exact key qc_1 qc_2.1 qc_2.2
    · replace qc_2 := zb_eq0.1 (Classical.not_not.1 qc_2)
      refine ⟨?_, MF.rf⟩
      rw [aTalk, zite_t (show told G from qc_1)]
      rcases (show w < 0 ∨ (0 ≤ w ∧ ¬ w ≤ 1) by omega) with e | e
      · rw [zite_t e]
      · rw [zite_f (by omega), zite_f e.2]
