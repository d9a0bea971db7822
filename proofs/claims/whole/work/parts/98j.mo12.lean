/-! THE MODEL, twelfth: the game twice, with minds of its own -/
theorem shlB : ∀ q : Fin 16, zshl 1 (q.1 : Int) = (2 : Int) ^ q.1 := by decide +kernel
def iabs (x : Int) : Int := if 0 ≤ x then x else -x
theorem zabs_i {x : Int} (h : -2000000 ≤ x ∧ x ≤ 2000000) : zabs x = iabs x := by
  unfold zabs iabs
  rw [iw_s (x := -x) (by omega) (by omega)]
theorem iabs_in {C x : Int} (h : -C ≤ x ∧ x ≤ C) : 0 ≤ iabs x ∧ iabs x ≤ C := by
  unfold iabs
  split <;> omega
theorem iabs_neg (x : Int) : iabs (-x) = iabs x := by
  unfold iabs
  split <;> split <;> omega
theorem zsum_neg {f : Int → Int} (n : Nat) : zsum n (fun i => -(f i)) = -(zsum n f) := by
  have e := zsum_mull (f := f) (-1) n
  rw [zsum_congr (g := fun i => -1 * f i) n (fun i _ _ => by omega), e]
  omega
/-- a choice of signs -/
noncomputable def pAs (G : GR) (B : Int → Prop) (o : Int) : Int := zsum (G 0 * G 0).toNat fun q => zite (B q) (gZ_ G q o) (-(gZ_ G q o))
noncomputable def pAb (G : GR) (B : Int → Prop) : Int := zsum (G 1 * G 1).toNat fun o => iabs (pAs G B o)
theorem pAb_congr {G : GR} {A B : Int → Prop} (h : ∀ q, 0 ≤ q → q < G 0 * G 0 → (A q ↔ B q)) : pAb G A = pAb G B := by
  unfold pAb
  refine zsum_congr _ (fun o _ _ => ?_)
  have e1_q : pAs G A o = pAs G B o := zsum_congr _ (fun q q0 q1_q => by
    have e := h q q0 (by omega)
    rcases Classical.em (A q) with k | k
    · rw [zite_t k, zite_t (e.1 k)]
    · rw [zite_f k, zite_f (fun z => k (e.2 z))])
  rw [e1_q]
theorem pAb_flip {G : GR} {A B : Int → Prop} (h : ∀ q, 0 ≤ q → q < G 0 * G 0 → (A q ↔ ¬ B q)) : pAb G A = pAb G B := by
  unfold pAb
  refine zsum_congr _ (fun o _ _ => ?_)
  have e : pAs G A o = -(pAs G B o) := by
    unfold pAs
    rw [← zsum_neg]
    refine zsum_congr _ (fun q q0 q1_q => ?_)
    have e := h q q0 (by omega)
    rcases Classical.em (A q) with k | k
    · rw [zite_t k, zite_f (e.1 k), Int.neg_neg]
    · rw [zite_f k, zite_t (Classical.not_not.1 (fun z => k (e.2 z)))]
  rw [e, iabs_neg]
theorem pAb_I {G : GR} (r : Int → Int) : tHigh (G 0 * G 0) (G 1 * G 1) 2 (fI G) r = pAb G (fun q => r q = 0 ∨ q = 0) := by
  unfold tHigh pAb
  refine zsum_congr _ (fun o _ _ => ?_)
  have e0_q : zS_ (fI G) r (G 0 * G 0) (o * 2 + 0) = pAs G (fun q => r q = 0 ∨ q = 0) o := by
    unfold zS_ pAs
    refine zsum_congr _ (fun q _ _ => ?_)
    rcases Classical.em (r q = 0 ∨ q = 0) with k | k
    · rw [zite_t k, fI_t ⟨fun _ => by omega, fun _ => k⟩, show (o * 2 + 0) / 2 = o by omega]
    · rw [zite_f k, fI_f (fun z => k (z.2 (by omega))), show (o * 2 + 0) / 2 = o by omega]
  have e1_q : zS_ (fI G) r (G 0 * G 0) (o * 2 + 1) = -(pAs G (fun q => r q = 0 ∨ q = 0) o) := by
    unfold zS_ pAs
    rw [← zsum_neg]
    refine zsum_congr _ (fun q _ _ => ?_)
    rcases Classical.em (r q = 0 ∨ q = 0) with k | k
    · rw [zite_t k, fI_f (fun z => absurd (z.1 k) (by omega)), show (o * 2 + 1) / 2 = o by omega]
    · rw [zite_f k, fI_t ⟨fun z => absurd z k, fun z => absurd z (by omega)⟩, Int.neg_neg, show (o * 2 + 1) / 2 = o by omega]
  have e2_q : tHi (G 0 * G 0) 2 (fI G) r o = zmax (zS_ (fI G) r (G 0 * G 0) (o * 2 + 0)) (zS_ (fI G) r (G 0 * G 0) (o * 2 + 1)) := rfl
  rw [e2_q, e0_q, e1_q]
  unfold zmax iabs
  split <;> split <;> omega
/-- a set of the numbers 0 to 14, as a number -/
noncomputable def pA (G : GR) (S : Int) : Int := pAb G (fun q => zand (zshr S q) 1 ≠ 1)
theorem gz2_in {G : GR} (ho : GOK G) (B : Prop) (q o : Int) : -81 ≤ zite B (gZ_ G q o) (-(gZ_ G q o)) ∧ zite B (gZ_ G q o) (-(gZ_ G q o)) ≤ 81 := by
  have := gZ__bd ho q o
  rcases Classical.em B with k | k
  · rw [zite_t k]; exact this
  · rw [zite_f k]; omega
theorem pA_nn (G : GR) (S : Int) : 0 ≤ pA G S := zsum_nn _ (fun o _ _ => by unfold iabs; split <;> omega)
theorem pProd_most {G : GR} {n : Nat} (hn : G 0 * G 0 = (n : Int) + 1) (h16_q : n ≤ 15) : isMost (G 0 * G 0) 2 (G 1 * G 1) 2 (fI G) (hi0 (pA G) ((2 : Int) ^ n).toNat) := by
  have hp : (0 : Int) < 2 ^ n := Int.pow_pos (by decide)
  have hp2 : (2 : Int) ^ n ≤ 32768 := by
    have : (2 : Int) ^ n ≤ 2 ^ 15 := by exact_mod_cast Nat.pow_le_pow_right (by decide) h16_q
    omega
  have e : ((2 : Int) ^ n).toNat = ((2 : Int) ^ n - 1).toNat + 1 := by omega
  have hbit : ∀ S q : Int, 0 ≤ S → S < 2 ^ n → 0 ≤ q → q < G 0 * G 0 → (zand (zshr S q) 1 = S / 2 ^ q.toNat % 2) := fun S q s0_q s1_q q0 q1_q => zbit_v ⟨s0_q, by omega⟩ q0 (by omega)
  rw [e, hi0_zhi _ (fun i _ _ => pA_nn G i)]
  constructor
  · intro r hr
    rw [pAb_I]
    -- the sign of the last place
    have key : ∀ B : Int → Prop, B n → pAb G B ≤ zhi ((2 : Int) ^ n - 1).toNat (pA G) := fun B hB_q => by
      obtain ⟨c, qc_0, qc_1, qc_2⟩ := dgt_all (na := 2) (by decide) (fun k => zb (¬ B (k : Int))) n (fun k _ => by have := zb_01 (P := ¬ B (k : Int)); omega)
      refine Int.le_trans (Int.le_of_eq ?_) (zhi_le (h := pA G) _ c qc_0 (by omega))
      refine pAb_congr (fun q q0 q1_q => ?_)
      rw [hbit c q qc_0 qc_1 q0 q1_q]
      rcases (show q = n ∨ q < n by omega) with k | k
      · rw [k, show ((n : Nat) : Int).toNat = n by omega, Int.ediv_eq_zero_of_lt qc_0 qc_1]
        exact ⟨fun _ => by decide, fun _ => hB_q⟩
      · have e2_q := qc_2 q.toNat (by omega)
        unfold dgt at e2_q
        rw [e2_q, show ((q.toNat : Nat) : Int) = q by omega]
        exact ⟨fun z => by rw [zb_f (fun w => w z)]; decide, fun z => Classical.byContradiction fun w => z (zb_t w)⟩
    rcases Classical.em (r n = 0 ∨ (n : Int) = 0) with k | k
    · exact key _ k
    · rw [pAb_flip (B := fun q => ¬ (r q = 0 ∨ q = 0)) (fun q _ _ => Classical.not_not.symm)]
      exact key _ k
  · obtain ⟨j, j0, j1, e2_q⟩ := zhi_at (h := pA G) ((2 : Int) ^ n - 1).toNat
    rw [e2_q]
    rcases Classical.em (zand (zshr j 0) 1 = 1) with k | k
    · refine ⟨fun q => zite (zand (zshr j q) 1 = 1) 0 1, fun q _ _ => ?_, ?_⟩
      · rcases Classical.em (zand (zshr j q) 1 = 1) with w | w
        · show 0 ≤ zite _ _ _ ∧ zite _ _ _ < 2
          rw [zite_t w]; decide
        · show 0 ≤ zite _ _ _ ∧ zite _ _ _ < 2
          rw [zite_f w]; decide
      · rw [pAb_I]
        unfold pA
        refine pAb_flip (fun q q0 q1_q => ?_)
        rcases Classical.em (zand (zshr j q) 1 = 1) with w | w
        · exact ⟨fun _ => fun z => z w, fun _ => Or.inl (zite_t w)⟩
        · refine ⟨fun z => ?_, fun z => absurd w z⟩
          rcases z with z | z
          · rw [zite_f w] at z; exact absurd z (by decide)
          · rw [z] at w; exact absurd k w
    · refine ⟨fun q => zite (zand (zshr j q) 1 = 1) 1 0, fun q _ _ => ?_, ?_⟩
      · rcases Classical.em (zand (zshr j q) 1 = 1) with w | w
        · show 0 ≤ zite _ _ _ ∧ zite _ _ _ < 2
          rw [zite_t w]; decide
        · show 0 ≤ zite _ _ _ ∧ zite _ _ _ < 2
          rw [zite_f w]; decide
      · rw [pAb_I]
        unfold pA
        refine pAb_congr (fun q q0 q1_q => ?_)
        rcases Classical.em (zand (zshr j q) 1 = 1) with w | w
        · refine ⟨fun z => ?_, fun z => absurd w z⟩
          rcases z with z | z
          · rw [zite_t w] at z; exact absurd z (by decide)
          · rw [z] at w; exact absurd w k
        · exact ⟨fun _ => w, fun _ => Or.inl (zite_f w)⟩
theorem c_Mo_product {d : Nat} {kd : ZK} {m : ZM} {G : GR} (h : MG kd m G) : CtI (d + 7) M_Mo_product [(2, 78)] kd m (fun v m1_q => pProd G v ∧ MF m m1_q) := by
  have r0 := h.s.r0
  have r1_q := h.s.r1
  have r2 := h.s.r2
  have r3 := h.s.r3
  have r4 := h.s.r4
  have r5_q := h.s.r5
  have r7 := h.s.r7
  have r12 := h.s.r12
  have r13 := h.s.r13
  have r15 := h.s.r15
  have r17 := h.s.r17
  have r18 := h.s.r18
  have r19 := h.s.r19
  have r20 := h.s.r20
  have r21 := h.s.r21
  have r22 := h.s.r22
  have hok := h.ok.1
  have hq0 : nQ G 0 = G 0 := rfl
  have hq1 : nQ G 1 = G 1 := rfl
  have ha0 : nA G 0 = G 2 := rfl
  have ha1 : nA G 1 = G 3 := rfl
  have key : told G → isPG G → G 0 ≤ 4 → Ev (d + 7) M_Mo_product 0 0 43 [(2, 78), (0, G 0), (0, G 1), (0, 0), zJ, zJ, zJ, zJ, zJ] [] kd m (zqI kd (fun v m1_q => pProd G v ∧ MF m m1_q)) := by
    intro ht hpg h4
    have htt := h.ok.2.1 ht
    have hto : 0 < G 0 := ht
    obtain ⟨N, eN0, hN1, hN2⟩ : ∃ N, N = G 0 * G 0 ∧ 1 ≤ N ∧ N ≤ 16 := by
      refine ⟨_, rfl, ?_⟩
      rcases (show G 0 = 1 ∨ G 0 = 2 ∨ G 0 = 3 ∨ G 0 = 4 by omega) with q | q | q | q <;> rw [q] <;> decide
    obtain ⟨M, eM0, hM1, hM2⟩ : ∃ M, M = G 1 * G 1 ∧ 1 ≤ M ∧ M ≤ 25 := by
      refine ⟨_, rfl, ?_⟩
      rcases (show G 1 = 1 ∨ G 1 = 2 ∨ G 1 = 3 ∨ G 1 = 4 ∨ G 1 = 5 by omega) with q | q | q | q | q <;> rw [q] <;> decide
    have eN : iw (G 0 * G 0) = N := by rw [← eN0]; exact iw_s (by omega) (by omega)
    have eM : iw (G 1 * G 1) = M := by rw [← eM0]; exact iw_s (by omega) (by omega)
    have eN1 : iw (N - 1) = N - 1 := iw_s (by omega) (by omega)
    obtain ⟨n, en⟩ : ∃ n : Nat, N = (n : Int) + 1 := ⟨(N - 1).toNat, by omega⟩
    obtain ⟨P2_q, eP2, hP1, hP3⟩ : ∃ P2_q : Int, P2_q = (2 : Int) ^ n ∧ 1 ≤ P2_q ∧ P2_q ≤ 32768 := by
      have hp : (0 : Int) < 2 ^ n := Int.pow_pos (by decide)
      have : (2 : Int) ^ n ≤ 2 ^ 15 := by exact_mod_cast Nat.pow_le_pow_right (by decide) (show n ≤ 15 by omega)
      exact ⟨_, rfl, by omega, by omega⟩
    have eS : zshl 1 (N - 1) = P2_q := by
      have e := shlB ⟨n, by omega⟩
      rw [show N - 1 = (n : Int) by omega, eP2]
      exact e
    have hmost := pProd_most (G := G) (n := n) (by omega) (by omega)
    rw [← eP2] at hmost
    have hdv : ∀ x g, 0 ≤ x → x ≤ g * g → 0 < g → g ≤ 5 → (iw (Int.tdiv x g) = x / g ∧ Int.tmod x g = x % g) ∧ (0 ≤ x / g ∧ x / g ≤ g) ∧ (x < g * g → x / g < g) ∧ 0 ≤ x % g ∧ x % g < g := fun x g x0_q x1_q g0 g1 => by
      have d1_q := Int.ediv_nonneg x0_q (show 0 ≤ g by omega)
      have d2_q : x / g ≤ g := Int.le_trans (Int.ediv_le_ediv g0 x1_q) (by rw [Int.mul_ediv_cancel _ (by omega)]; exact Int.le_refl _)
      refine ⟨⟨?_, Int.tmod_eq_emod_of_nonneg x0_q⟩, ⟨d1_q, d2_q⟩, fun hl => Int.ediv_lt_of_lt_mul g0 hl, Int.emod_nonneg _ (by omega), Int.emod_lt_of_pos _ g0⟩
      rw [Int.tdiv_eq_ediv_of_nonneg x0_q]
      exact iw_s (by omega) (by omega)
    have scan : ∀ mm : ZM, (∀ e, e ≠ 92 → mm e = m e) → (∀ i o, 0 ≤ i → i < N → 0 ≤ o → o < M → mm 92 (25 * i + o) = gZ_ G i o) → Ev (d + 7) M_Mo_product 0 0 141 [(2, 78), (0, G 0), (0, G 1), (0, 0), (0, 0), zJ, zJ, zJ, zJ] [] kd mm (zqI kd (fun v m1_q => pProd G v ∧ MF m m1_q)) := by
      intro mm hF hX
      have hMF : MF m mm := MF.of (fun c hc_q => hF c (by omega))
      have hm_q : MG kd mm G := h.mf hMF
      have qL0 := zfor1 (P2_q) (fun (S : Int) (mo : Int) => Ev (d + 7) M_Mo_product 0 0 141 [(2, 78), (0, (G 0)), (0, (G 1)), (0, mo), (0, S), zJ, zJ, zJ, zJ] [] kd mm (zqI kd (fun v m1_q => pProd G v ∧ MF m m1_q))) (fun (S : Int) (mo : Int) => 0 ≤ S ∧ mo = hi0 (pA G) S.toNat) (by
        intro S mo hb_q hI0 qKL0
        obtain ⟨hS0, hmo⟩ := hI0
        have h1 := hi0_1 (f := pA G) hS0
        have qL1 := zfor1 (M) (fun (y : Int) (t : Int) => Ev (d + 7) M_Mo_product 0 0 159 [(2, 78), (0, (G 0)), (0, (G 1)), (0, mo), (0, S), (0, t), (0, y), zJ, zJ] [] kd mm (zqI kd (fun v m1_q => pProd G v ∧ MF m m1_q))) (fun (y : Int) (t : Int) => (0 ≤ y ∧ S < P2_q) ∧ t = zsum y.toNat (fun y => iabs (pAs G (fun q => zand (zshr S q) 1 ≠ 1) y)) ∧ 0 ≤ t ∧ t ≤ 1296 * y) (by
          intro y t hb_q hI1 qKL1
          obtain ⟨⟨hy0, hSl⟩, ht_, t0_q, t1_q⟩ := hI1
          have x1_q := zsum_1 hy0 (fun y => iabs (pAs G (fun q => zand (zshr S q) 1 ≠ 1) y))
          try simp only [] at x1_q
          have qL2 := zfor1 (N) (fun (q : Int) (s : Int) => Ev (d + 7) M_Mo_product 0 0 173 [(2, 78), (0, (G 0)), (0, (G 1)), (0, mo), (0, S), (0, t), (0, y), (0, s), (0, q)] [] kd mm (zqI kd (fun v m1_q => pProd G v ∧ MF m m1_q))) (fun (q : Int) (s : Int) => (0 ≤ q ∧ y < M) ∧ s = zsum q.toNat (fun q => zite (zand (zshr S q) 1 ≠ 1) (gZ_ G q y) (-(gZ_ G q y))) ∧ -(81 * q) ≤ s ∧ s ≤ 81 * q) (by
            intro q s hb_q hI2 qKL2
            obtain ⟨⟨hq_, hyl⟩, hs, s0_q, s1_q⟩ := hI2
            have x2_q := zsum_1 hq_ (fun q => zite (zand (zshr S q) 1 ≠ 1) (gZ_ G q y) (-(gZ_ G q y)))
            try simp only [] at x2_q
            have hg := gZ__bd h.ok q y
            have e25_q : iw (iw (25 * q) + y) = 25 * q + y := by rw [iw_s (x := 25 * q) (by omega) (by omega)]; exact iw_s (by omega) (by omega)
            refine T_Mo_product_173 ?_
            try simp only [eN, eM, eN1, eS, e25_q, hm_q.s.r20]
            refine ⟨fun qc_1 => ?_, fun qc_1 => ?_⟩
            · skip
              have hsA : s = pAs G (fun q => zand (zshr S q) 1 ≠ 1) y := by rw [hs, show q = N by omega, eN0]; rfl
              have hab := iabs_in (C := 1296) (x := s) (by omega)
              rw [zabs_i (x := s) (by omega), iw_s (x := t + iabs s) (by omega) (by omega)]
              rw [iw_s (x := y + 1) (by omega) (by omega)]
              exact qKL1 _ (by omega) ⟨⟨by omega, hSl⟩, by rw [x1_q, ← ht_, ← hsA], by omega, by omega⟩
            · skip
              refine ⟨fun qc_2 => ?_, fun qc_2 => ?_⟩
              · skip
                refine ⟨hm_q.s.o, ⟨400, hm_q.s.k92, by omega, by omega⟩, ?_⟩
                rw [hX q y hq_ (by omega) hy0 (by omega)]
                rw [iw_s (x := q + 1) (by omega) (by omega)]
                first | (rw [iw_s (x := s + gZ_ G q y) (by omega) (by omega)]; rw [zite_t (show zand (zshr S q) 1 ≠ 1 from qc_2)] at x2_q; exact qKL2 _ (by omega) ⟨⟨by omega, hyl⟩, by rw [x2_q, ← hs], by omega, by omega⟩) | (rw [iw_s (x := -(gZ_ G q y)) (by omega) (by omega), iw_s (x := s + -(gZ_ G q y)) (by omega) (by omega)]; rw [zite_f (show ¬ (zand (zshr S q) 1 ≠ 1) from qc_2)] at x2_q; exact qKL2 _ (by omega) ⟨⟨by omega, hyl⟩, by rw [x2_q, ← hs], by omega, by omega⟩)
              · skip
                refine ⟨hm_q.s.o, ⟨400, hm_q.s.k92, by omega, by omega⟩, ?_⟩
                rw [hX q y hq_ (by omega) hy0 (by omega)]
                rw [iw_s (x := q + 1) (by omega) (by omega)]
                first | (rw [iw_s (x := s + gZ_ G q y) (by omega) (by omega)]; rw [zite_t (show zand (zshr S q) 1 ≠ 1 from qc_2)] at x2_q; exact qKL2 _ (by omega) ⟨⟨by omega, hyl⟩, by rw [x2_q, ← hs], by omega, by omega⟩) | (rw [iw_s (x := -(gZ_ G q y)) (by omega) (by omega), iw_s (x := s + -(gZ_ G q y)) (by omega) (by omega)]; rw [zite_f (show ¬ (zand (zshr S q) 1 ≠ 1) from qc_2)] at x2_q; exact qKL2 _ (by omega) ⟨⟨by omega, hyl⟩, by rw [x2_q, ← hs], by omega, by omega⟩))
          refine T_Mo_product_159 ?_
          try simp only [eN, eM, eN1, eS]
          refine ⟨fun qc_1 => ?_, fun qc_1 => ?_⟩
          · skip
            have hpA : t = pA G S := by rw [ht_, show y = M by omega, eM0]; rfl
            rw [iw_s (x := S + 1) (by omega) (by omega)]
            exact qKL0 _ (by omega) ⟨by omega, by rw [h1, ← hmo, hpA]⟩
          · skip
            exact qL2 0 0 (by omega) ⟨⟨by decide, by omega⟩, rfl, by decide, by decide⟩)
        refine T_Mo_product_141 ?_
        try simp only [eN, eM, eN1, eS]
        refine ⟨fun qc_1 => ?_, fun qc_1 => ?_⟩
        · skip
          exact ⟨zcs_t ht (zcs_t hpg (zcs_t h4 (by rw [hmo, show S = P2_q by omega]; exact hmost))), hMF⟩
        · skip
          exact qL1 0 0 (by omega) ⟨⟨by decide, by omega⟩, rfl, by decide, by decide⟩)
      exact qL0 0 0 (by omega) ⟨by decide, rfl⟩
    have qL0 := zfor1 (N) (fun (x : Int) (mm : ZM) => Ev (d + 7) M_Mo_product 0 0 43 [(2, 78), (0, (G 0)), (0, (G 1)), (0, x), zJ, zJ, zJ, zJ, zJ] [] kd mm (zqI kd (fun v m1_q => pProd G v ∧ MF m m1_q))) (fun (x : Int) (mm : ZM) => 0 ≤ x ∧ (∀ e, e ≠ 92 → mm e = m e) ∧ ∀ i o, 0 ≤ i → 0 ≤ o → o < M → (i < x ∨ i = x ∧ o < 0) → mm 92 (25 * i + o) = gZ_ G i o) (by
      intro x mm hb_q hI0 qKL0
      obtain ⟨hx0, hF, hX⟩ := hI0
      have hdx := hdv x (G 0) hx0 (by omega) hto (by omega)
      have qL1 := zfor1 (M) (fun (y : Int) (mm : ZM) => Ev (d + 7) M_Mo_product 0 0 53 [(2, 78), (0, (G 0)), (0, (G 1)), (0, x), (0, y), zJ, zJ, zJ, zJ] [] kd mm (zqI kd (fun v m1_q => pProd G v ∧ MF m m1_q))) (fun (y : Int) (mm : ZM) => (0 ≤ y ∧ x < N) ∧ (∀ e, e ≠ 92 → mm e = m e) ∧ ∀ i o, 0 ≤ i → 0 ≤ o → o < M → (i < x ∨ i = x ∧ o < y) → mm 92 (25 * i + o) = gZ_ G i o) (by
        intro y mm hb_q hI1 qKL1
        obtain ⟨⟨hy0, hxl⟩, hF, hX⟩ := hI1
        have hm_q : MG kd mm G := h.mf (MF.of (fun c hc_q => hF c (by omega)))
        have hdy := hdv y (G 1) hy0 (by omega) (by omega) (by omega)
        have hd1 := hdx.2.2.1 (by omega)
        have dx1 := hdx.1.1
        have dx2 := hdx.1.2
        have dy1 := hdy.1.1
        have dy2 := hdy.1.2
        have e25_q : iw (iw (25 * x) + y) = 25 * x + y := by rw [iw_s (x := 25 * x) (by omega) (by omega)]; exact iw_s (by omega) (by omega)
        refine T_Mo_product_53 ?_
        try simp only [eN, eM, dx1, dx2, dy1, dy2, e25_q, hm_q.s.r20]
        refine ⟨fun qc_1 => ?_, fun qc_1 => ?_⟩
        · skip
          rw [iw_s (x := x + 1) (by omega) (by omega)]
          exact qKL0 _ (by omega) ⟨by omega, hF, fun i o i0_q o0_q o1 hl => hX i o i0_q o0_q o1 (by omega)⟩
        · skip
          refine ⟨(by omega), (by omega), ?_⟩
          refine ⟨hm_q.s.o, _, c_Mo_weightOf hm_q ⟨by omega, by omega⟩ ⟨by omega, by have := hdy.2.2.1 (by omega); omega⟩, ?_⟩
          rintro _ _ ⟨rfl, rfl⟩
          try simp only [eN, eM, dx1, dx2, dy1, dy2, e25_q, hm_q.s.r20]
          refine ⟨(by omega), (by omega), ?_⟩
          refine ⟨hm_q.s.o, _, c_Mo_signOf hm_q ⟨by omega, by omega⟩ ⟨by omega, by have := hdy.2.2.1 (by omega); omega⟩, ?_⟩
          rintro _ _ ⟨rfl, rfl⟩
          try simp only [eN, eM, dx1, dx2, dy1, dy2, e25_q, hm_q.s.r20]
          refine ⟨hm_q.s.o, (by omega), (by omega), ?_⟩
          refine ⟨hm_q.s.o, _, c_Mo_weightOf hm_q ⟨by omega, by omega⟩ ⟨by omega, by have := hdy.2.2.1 (by omega); omega⟩, ?_⟩
          rintro _ _ ⟨rfl, rfl⟩
          try simp only [eN, eM, dx1, dx2, dy1, dy2, e25_q, hm_q.s.r20]
          refine ⟨(by omega), (by omega), ?_⟩
          refine ⟨hm_q.s.o, _, c_Mo_signOf hm_q ⟨by omega, by omega⟩ ⟨by omega, by have := hdy.2.2.1 (by omega); omega⟩, ?_⟩
          rintro _ _ ⟨rfl, rfl⟩
          try simp only [eN, eM, dx1, dx2, dy1, dy2, e25_q, hm_q.s.r20]
          refine ⟨⟨400, hm_q.s.k92, by omega, by omega⟩, ?_⟩
          have b1 : -9 ≤ gW G (x / G 0) (y / G 1) * gS G (x / G 0) (y / G 1) ∧ gW G (x / G 0) (y / G 1) * gS G (x / G 0) (y / G 1) ≤ 9 := gZ_in h.ok (x / G 0) (y / G 1)
          have b2 : -81 ≤ gW G (x / G 0) (y / G 1) * gS G (x / G 0) (y / G 1) * gW G (x % G 0) (y % G 1) ∧ gW G (x / G 0) (y / G 1) * gS G (x / G 0) (y / G 1) * gW G (x % G 0) (y % G 1) ≤ 81 := zmul_bd (A := 9) (B := 9) b1 ⟨by have := h.ok.gW (x % G 0) (y % G 1); omega, (h.ok.gW (x % G 0) (y % G 1)).2⟩
          have b3 : gW G (x / G 0) (y / G 1) * gS G (x / G 0) (y / G 1) * gW G (x % G 0) (y % G 1) * gS G (x % G 0) (y % G 1) = gZ_ G x y := Int.mul_assoc _ _ _
          have b4 := gZ__bd h.ok x y
          rw [iw_s (x := gW G (x / G 0) (y / G 1) * gS G (x / G 0) (y / G 1)) (by omega) (by omega), iw_s (x := gW G (x / G 0) (y / G 1) * gS G (x / G 0) (y / G 1) * gW G (x % G 0) (y % G 1)) (by omega) (by omega), b3, iw_s (x := gZ_ G x y) (by omega) (by omega)]
          rw [iw_s (x := y + 1) (by omega) (by omega)]
          refine qKL1 _ (by omega) ⟨⟨by omega, hxl⟩, fun e he => by rw [zup_off he]; exact hF e he, fun i o i0_q o0_q o1 hl => ?_⟩
          rw [zup_at]
          rcases Classical.em (i = x ∧ o = y) with q | q
          · rw [q.1, q.2, gup_at]
          · rw [gup_off (by omega)]; exact hX i o i0_q o0_q o1 (by omega))
      refine T_Mo_product_43 ?_
      try simp only [eN, eM]
      refine ⟨fun qc_1 => ?_, fun qc_1 => ?_⟩
      · skip
        exact scan mm hF (fun i o i0_q i1_q o0_q o1 => hX i o i0_q o0_q o1 (Or.inl (by omega)))
      · skip
        exact qL1 0 mm (by omega) ⟨⟨by decide, by omega⟩, hF, hX⟩)
    exact qL0 0 m (by omega) ⟨by decide, fun _ _ => rfl, fun i o i0_q o0_q o1 hl => absurd hl (by omega)⟩
  refine S_Mo_product ?_
  try simp only [r0, r1_q, r2, r3, r4, r5_q, r7, r12, r13, r15, r17, r18, r19, r20, r21, r22]
  refine ⟨h.s.o, _, c_Mo_hasGame h, ?_⟩
  rintro _ _ ⟨rfl, rfl⟩
  try simp only [r0, r1_q, r2, r3, r4, r5_q, r7, r12, r13, r15, r17, r18, r19, r20, r21, r22]
  refine ⟨fun qc_1 => ?_, fun qc_1 => ?_⟩
  · replace qc_1 := zb_ne0.1 qc_1
    refine ⟨h.s.o, _, c_Mo_isParityGame h, ?_⟩
    rintro _ _ ⟨rfl, rfl⟩
    try simp only [r0, r1_q, r2, r3, r4, r5_q, r7, r12, r13, r15, r17, r18, r19, r20, r21, r22]
    refine ⟨fun qc_2 => ?_, fun qc_2 => ?_⟩
    · replace qc_2 := zb_ne0.1 qc_2
      refine ⟨h.s.o, _, c_Mo_questions h (Or.inl rfl), ?_⟩
      rintro _ _ ⟨rfl, rfl⟩
      try simp only [r0, r1_q, r2, r3, r4, r5_q, r7, r12, r13, r15, r17, r18, r19, r20, r21, r22]
      refine ⟨h.s.o, _, c_Mo_questions h (Or.inr rfl), ?_⟩
      rintro _ _ ⟨rfl, rfl⟩
      try simp only [r0, r1_q, r2, r3, r4, r5_q, r7, r12, r13, r15, r17, r18, r19, r20, r21, r22]
      refine ⟨fun qc_3 => ?_, fun qc_3 => ?_⟩
      · skip
        rw [hq0, hq1] at *
        exact key qc_1 qc_2 (by omega)
      · skip
        exact ⟨zcs_t qc_1 (zcs_t qc_2 (zcs_f (by omega) rfl)), MF.rf⟩
    · replace qc_2 := zb_eq0.1 (Classical.not_not.1 qc_2)
      exact ⟨zcs_t qc_1 (zcs_f qc_2 rfl), MF.rf⟩
  · replace qc_1 := zb_eq0.1 (Classical.not_not.1 qc_1)
    exact ⟨zcs_f qc_1 rfl, MF.rf⟩
