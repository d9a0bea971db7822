/-! THE MODEL, eighteenth: drop, copy -/
theorem c_Mo_twoOf2 {d : Nat} {kd : ZK} {m : ZM} {x y : Int} (hx : -10 ≤ x ∧ x < 1000) (hy : -10 ≤ y ∧ y < 1000) : CtI (d + 1) M_Mo_twoOf [(0, x), (0, y)] kd m (qE m (5 * x + y)) := by
  refine S_Mo_twoOf ?_
  exact ⟨by rw [iw_s (x := 5 * x) (by omega) (by omega), iw_s (by omega) (by omega)], rfl⟩
theorem c_Mo_questionsR {d : Nat} {kd : ZK} {m : ZM} {p : Int} (h : MS kd m) (hp : p = 0 ∨ p = 1) : CtI (d + 1) M_Mo_questions [(2, 78), (0, p)] kd m (qE m (m 79 p)) := by
  have e : iw (0 + p) = p := by rw [Int.zero_add]; exact iw_s (by omega) (by omega)
  refine S_Mo_questions ?_
  try simp only [h.r0, e]
  exact ⟨h.o, ⟨829, h.k79, by omega, by omega⟩, by trivial, by trivial⟩
/-- a pair of questions, player p's ahead -/
def PP (p o j : Int) : Int := if p = 0 then 5 * o + j else 5 * j + o
theorem PP_in {p o j : Int} (ho : 0 ≤ o ∧ o < 5) (hj : 0 ≤ j ∧ j < 5) : 0 ≤ PP p o j ∧ PP p o j < 25 := by
  unfold PP
  split <;> omega
theorem PP_inj {p o j u w : Int} (h : PP p o j = PP p u w) (ho : 0 ≤ o ∧ o < 5) (hj : 0 ≤ j ∧ j < 5) (hu : 0 ≤ u ∧ u < 5) (hw : 0 ≤ w ∧ w < 5) : o = u ∧ j = w := by
  unfold PP at h
  split at h <;> omega
def cpX (K : Int → Int) (b p f j k : Int) : Int := if f = -1 then 0 else K (b + 16 * PP p f j + k)
def cpW (K : Int → Int) (p f j : Int) : Int := if f = -1 then 0 else K (4 + PP p f j)
def CPI (p f t : Int) (K r : Int → Int) (w v : Int) : Prop := (∀ k, 0 ≤ k → k < 4 → r k = K k) ∧ (∀ o j, 0 ≤ o → o < 5 → 0 ≤ j → j < 5 → (o = t ∧ j < w → r (4 + PP p o j) = cpW K p f j) ∧ (¬ (o = t ∧ j < w) → r (4 + PP p o j) = K (4 + PP p o j))) ∧ ∀ o j k, 0 ≤ o → o < 5 → 0 ≤ j → j < 5 → 0 ≤ k → k < 16 → (o = t ∧ 16 * j + k < v → r (29 + 16 * PP p o j + k) = cpX K 29 p f j k ∧ r (429 + 16 * PP p o j + k) = cpX K 429 p f j k) ∧ (¬ (o = t ∧ 16 * j + k < v) → r (29 + 16 * PP p o j + k) = K (29 + 16 * PP p o j + k) ∧ r (429 + 16 * PP p o j + k) = K (429 + 16 * PP p o j + k))
theorem CPI_0 {p f t : Int} {K : Int → Int} : CPI p f t K K 0 0 := ⟨fun _ _ _ => rfl, fun o j _ _ j0 _ => ⟨fun z => absurd z.2 (by omega), fun _ => rfl⟩, fun o j k _ _ j0 _ k0_q _ => ⟨fun z => absurd z.2 (by omega), fun _ => ⟨rfl, rfl⟩⟩⟩
theorem CPI_W {p f t : Int} {K r : Int → Int} {w v : Int} (h : CPI p f t K r w v) (ht : 0 ≤ t ∧ t < 5) (hw : 0 ≤ w ∧ w < 5) : CPI p f t K (gup r (4 + PP p t w) (cpW K p f w)) (w + 1) v := by
  have b := PP_in (p := p) ht hw
  refine ⟨fun k k0_q k1_q => by rw [gup_off (by omega)]; exact h.1 k k0_q k1_q, fun o j o0_q o1 j0 j1 => ?_, fun o j k o0_q o1 j0 j1 k0_q k1_q => ?_⟩
  · have z := h.2.1 o j o0_q o1 j0 j1
    rcases Classical.em (o = t ∧ j = w) with q | q
    · rw [q.1, q.2, gup_at]
      exact ⟨fun _ => rfl, fun e => absurd ⟨rfl, by omega⟩ e⟩
    · have hne : 4 + PP p o j ≠ 4 + PP p t w := fun e => q (PP_inj (p := p) (by omega) ⟨o0_q, o1⟩ ⟨j0, j1⟩ ht hw)
      rw [gup_off hne]
      exact ⟨fun e => z.1 (by omega), fun e => z.2 (by omega)⟩
  · have b2 := PP_in (p := p) (o := o) (j := j) ⟨o0_q, o1⟩ ⟨j0, j1⟩
    rw [gup_off (by omega), gup_off (by omega)]
    exact h.2.2 o j k o0_q o1 j0 j1 k0_q k1_q
theorem CPI_V {p f t : Int} {K r : Int → Int} {w v j0 k0_q : Int} (h : CPI p f t K r w v) (ht : 0 ≤ t ∧ t < 5) (hj : 0 ≤ j0 ∧ j0 < 5) (hk : 0 ≤ k0_q ∧ k0_q < 16) (e : v = 16 * j0 + k0_q) : CPI p f t K (gup (gup r (29 + 16 * PP p t j0 + k0_q) (cpX K 29 p f j0 k0_q)) (429 + 16 * PP p t j0 + k0_q) (cpX K 429 p f j0 k0_q)) w (v + 1) := by
  have b := PP_in (p := p) ht hj
  refine ⟨fun k k0_q k1_q => by rw [gup_off (by omega), gup_off (by omega)]; exact h.1 k k0_q k1_q, fun o j o0_q o1 j0 j1 => ?_, fun o j k o0_q o1 j1 j2_q k1_q k2_q => ?_⟩
  · have b2 := PP_in (p := p) (o := o) (j := j) ⟨o0_q, o1⟩ ⟨j0, j1⟩
    rw [gup_off (by omega), gup_off (by omega)]
    exact h.2.1 o j o0_q o1 j0 j1
  · have b2 := PP_in (p := p) (o := o) (j := j) ⟨o0_q, o1⟩ ⟨j1, j2_q⟩
    have z := h.2.2 o j k o0_q o1 j1 j2_q k1_q k2_q
    rcases Classical.em (o = t ∧ j = j0 ∧ k = k0_q) with q | q
    · rw [q.1, q.2.1, q.2.2, gup_at, gup_off (by omega), gup_at]
      exact ⟨fun _ => ⟨rfl, rfl⟩, fun z => absurd ⟨rfl, by omega⟩ z⟩
    · have hne : PP p o j = PP p t j0 → k ≠ k0_q := fun e1_q e2_q => q (by
        have i := PP_inj (p := p) e1_q ⟨o0_q, o1⟩ ⟨j1, j2_q⟩ ht hj
        exact ⟨i.1, i.2, e2_q⟩)
      have n1_q : 16 * PP p o j + k ≠ 16 * PP p t j0 + k0_q := fun e1_q => hne (by omega) (by omega)
      rw [gup_off (by omega), gup_off (by omega), gup_off (by omega), gup_off (by omega)]
      refine ⟨fun e1_q => z.1 ⟨e1_q.1, ?_⟩, fun e1_q => z.2 (fun e2_q => e1_q ⟨e2_q.1, by omega⟩)⟩
      have : ¬ (j = j0 ∧ k = k0_q) := fun e2_q => q ⟨e1_q.1, e2_q.1, e2_q.2⟩
      omega
theorem CPI_rW {p f t : Int} {K r : Int → Int} {w v : Int} (h : CPI p f t K r w v) (hf : 0 ≤ f ∧ f < 5) (hn : f ≠ t) {j : Int} (hj : 0 ≤ j ∧ j < 5) : r (4 + PP p f j) = cpW K p f j := by
  rw [(h.2.1 f j hf.1 hf.2 hj.1 hj.2).2 (fun z => hn z.1)]
  unfold cpW
  rw [if_neg (by omega)]
theorem CPI_rV {p f t : Int} {K r : Int → Int} {w v : Int} (h : CPI p f t K r w v) (hf : 0 ≤ f ∧ f < 5) (hn : f ≠ t) {j k : Int} (hj : 0 ≤ j ∧ j < 5) (hk : 0 ≤ k ∧ k < 16) : r (29 + 16 * PP p f j + k) = cpX K 29 p f j k ∧ r (429 + 16 * PP p f j + k) = cpX K 429 p f j k := by
  have z := (h.2.2 f j k hf.1 hf.2 hj.1 hj.2 hk.1 hk.2).2 (fun z => hn z.1)
  rw [z.1, z.2]
  unfold cpX
  rw [if_neg (by omega), if_neg (by omega)]
  exact ⟨rfl, rfl⟩
def MC (m : ZM) (p f t : Int) (m1_q : ZM) : Prop := (∀ c, c ≠ 79 → m1_q c = m c) ∧ CPI p f t (m 79) (m1_q 79) 5 80
theorem c_Mo_copies {d : Nat} {kd : ZK} {m : ZM} {p f t : Int} (hM_q : MS kd m) (hp : p = 0 ∨ p = 1) (hf : -1 ≤ f ∧ f < 5) (ht : 0 ≤ t ∧ t < 5) (hn : f ≠ t) : CtV (d + 2) M_Mo_copies [(2, 78), (0, p), (0, f), (0, t)] kd m (fun m1_q => MC m p f t m1_q) := by
  have qL0 := zfor1 5 (fun (g : Int) (mm : ZM) => Ev (d + 2) M_Mo_copies 0 0 3 [(2, 78), (0, p), (0, f), (0, t), (0, g), zJ, zJ, zJ] [] kd mm (zqV kd (fun m1_q => MC m p f t m1_q))) (fun (g : Int) (mm : ZM) => 0 ≤ g ∧ (∀ c, c ≠ 79 → mm c = m c) ∧ CPI p f t (m 79) (mm 79) g (16 * g)) (by
    intro g mm hb_q hI0 qKL0
    obtain ⟨hg0, hF, hC⟩ := hI0
    have hMm : MS kd mm := hM_q.fr (hF 78 (by decide))
    have k81 : ∀ (mx : ZM) (g5_q : g < 5), (∀ c, c ≠ 79 → mx c = m c) → CPI p f t (m 79) (mx 79) (g + 1) (16 * g) → Ev (d + 2) M_Mo_copies 0 0 81 [(2, 78), (0, p), (0, f), (0, t), (0, g), (0, PP p t g), (0, PP p f g), (0, 0)] [] kd mx (zqV kd (fun m1_q => MC m p f t m1_q)) := by
      intro mx g5_q hFx hCx
      have bt := PP_in (p := p) ht ⟨hg0, g5_q⟩
      have bf : f ≠ -1 → 0 ≤ PP p f g ∧ PP p f g < 25 := fun e => PP_in (p := p) (by omega) ⟨hg0, g5_q⟩
      have qL1 := zfor1 16 (fun (k : Int) (mm : ZM) => Ev (d + 2) M_Mo_copies 0 0 81 [(2, 78), (0, p), (0, f), (0, t), (0, g), (0, PP p t g), (0, PP p f g), (0, k)] [] kd mm (zqV kd (fun m1_q => MC m p f t m1_q))) (fun (k : Int) (mm : ZM) => 0 ≤ k ∧ (∀ c, c ≠ 79 → mm c = m c) ∧ CPI p f t (m 79) (mm 79) (g + 1) (16 * g + k)) (by
        intro k mm hb_q hI1 qKL1
        obtain ⟨hk0, hF1, hC1⟩ := hI1
        have hM1 : MS kd mm := hM_q.fr (hF1 78 (by decide))
        refine T_Mo_copies_81 ⟨fun qc_1 => ?_, fun qc_1 => ?_⟩
        · rw [iw_s (x := g + 1) (by omega) (by omega)]
          refine qKL0 mm (by omega) ⟨by omega, hF1, ?_⟩
          rw [show 16 * (g + 1) = 16 * g + k by omega]
          exact hC1
        · have hk : 0 ≤ k ∧ k < 16 := ⟨hk0, by omega⟩
          have i1_q : iw (iw (29 + iw (16 * PP p t g)) + k) = 29 + 16 * PP p t g + k := by rw [iw_s (x := 16 * PP p t g) (by omega) (by omega), iw_s (x := 29 + 16 * PP p t g) (by omega) (by omega)]; exact iw_s (by omega) (by omega)
          have i2_q : iw (iw (429 + iw (16 * PP p t g)) + k) = 429 + 16 * PP p t g + k := by rw [iw_s (x := 16 * PP p t g) (by omega) (by omega), iw_s (x := 429 + 16 * PP p t g) (by omega) (by omega)]; exact iw_s (by omega) (by omega)
          have i3_q : f ≠ -1 → iw (iw (29 + iw (16 * PP p f g)) + k) = 29 + 16 * PP p f g + k := fun e => by have := bf e; rw [iw_s (x := 16 * PP p f g) (by omega) (by omega), iw_s (x := 29 + 16 * PP p f g) (by omega) (by omega)]; exact iw_s (by omega) (by omega)
          have i4_q : f ≠ -1 → iw (iw (429 + iw (16 * PP p f g)) + k) = 429 + 16 * PP p f g + k := fun e => by have := bf e; rw [iw_s (x := 16 * PP p f g) (by omega) (by omega), iw_s (x := 429 + 16 * PP p f g) (by omega) (by omega)]; exact iw_s (by omega) (by omega)
          have k128 : Ev (d + 2) M_Mo_copies 0 0 128 [(2, 78), (0, p), (0, f), (0, t), (0, g), (0, PP p t g), (0, PP p f g), (0, k)] [(0, cpX (m 79) 29 p f g k), (0, 29 + 16 * PP p t g + k), (2, 79)] kd mm (zqV kd (fun m1_q => MC m p f t m1_q)) := by
            have z78 : (zup mm 79 (29 + 16 * PP p t g + k) (cpX (m 79) 29 p f g k)) 78 0 = 79 := by rw [zup_off (by decide)]; exact hM1.r0
            have fin : ∀ v, v = cpX (m 79) 429 p f g k → Ev (d + 2) M_Mo_copies 0 0 81 [(2, 78), (0, p), (0, f), (0, t), (0, g), (0, PP p t g), (0, PP p f g), (0, k + 1)] [] kd (zup (zup mm 79 (29 + 16 * PP p t g + k) (cpX (m 79) 29 p f g k)) 79 (429 + 16 * PP p t g + k) v) (zqV kd (fun m1_q => MC m p f t m1_q)) := fun v hv => by
              rw [hv]
              refine qKL1 _ (by omega) ⟨by omega, fun c hc_q => by rw [zup_off hc_q, zup_off hc_q]; exact hF1 c hc_q, ?_⟩
              rw [zup_at, zup_at, show 16 * g + (k + 1) = 16 * g + k + 1 by omega]
              exact CPI_V hC1 ht ⟨hg0, g5_q⟩ hk rfl
            refine T_Mo_copies_128 ?_
            try simp only [z78, i2_q]
            rw [iw_s (x := k + 1) (by omega) (by omega)]
            refine ⟨⟨829, hM1.k79, by omega, by omega⟩, hM1.o, fun qc_2 => ?_, fun qc_2 => ?_⟩
            · have bf2 := bf qc_2
              rw [i4_q qc_2]
              refine ⟨hM1.o, ⟨829, hM1.k79, by omega, by omega⟩, ⟨829, hM1.k79, by omega, by omega⟩, fin _ ?_⟩
              have hne : 429 + 16 * PP p f g + k ≠ 29 + 16 * PP p t g + k := by omega
              rw [zup_nj hne]
              exact (CPI_rV hC1 (by omega) hn ⟨hg0, g5_q⟩ hk).2
            · refine ⟨⟨829, hM1.k79, by omega, by omega⟩, fin _ ?_⟩
              unfold cpX
              rw [if_pos (by omega)]
          try simp only [hM1.r0, i1_q]
          refine ⟨hM1.o, fun qc_2 => ?_, fun qc_2 => ?_⟩
          · have bf2 := bf qc_2
            rw [i3_q qc_2]
            refine ⟨hM1.o, ⟨829, hM1.k79, by omega, by omega⟩, ?_⟩
            rw [(CPI_rV hC1 (by omega) hn ⟨hg0, g5_q⟩ hk).1]
            exact k128
          · have e0_q : cpX (m 79) 29 p f g k = 0 := by
              unfold cpX
              rw [if_pos (by omega)]
            rw [e0_q] at k128
            exact k128)
      refine qL1 0 mx (by omega) ⟨by decide, hFx, ?_⟩
      rw [Int.add_zero]
      exact hCx
    have k49 : g < 5 → Ev (d + 2) M_Mo_copies 0 0 49 [(2, 78), (0, p), (0, f), (0, t), (0, g), (0, PP p t g), zJ, zJ] [(0, PP p f g)] kd mm (zqV kd (fun m1_q => MC m p f t m1_q)) := by
      intro g5_q
      have bt := PP_in (p := p) ht ⟨hg0, g5_q⟩
      have fin : ∀ v, v = cpW (m 79) p f g → Ev (d + 2) M_Mo_copies 0 0 81 [(2, 78), (0, p), (0, f), (0, t), (0, g), (0, PP p t g), (0, PP p f g), (0, 0)] [] kd (zup mm 79 (4 + PP p t g) v) (zqV kd (fun m1_q => MC m p f t m1_q)) := fun v hv => by
        rw [hv]
        refine k81 _ g5_q (fun c hc_q => by rw [zup_off hc_q]; exact hF c hc_q) ?_
        rw [zup_at]
        exact CPI_W hC ht ⟨hg0, g5_q⟩
      refine T_Mo_copies_49 ?_
      try simp only [hMm.r0]
      rw [iw_s (x := 4 + PP p t g) (by omega) (by omega)]
      refine ⟨hMm.o, fun qc_2 => ?_, fun qc_2 => ?_⟩
      · have bf2 := PP_in (p := p) (o := f) (j := g) (by omega) ⟨hg0, g5_q⟩
        rw [iw_s (x := 4 + PP p f g) (by omega) (by omega)]
        refine ⟨hMm.o, ⟨829, hMm.k79, by omega, by omega⟩, ⟨829, hMm.k79, by omega, by omega⟩, fin _ ?_⟩
        exact CPI_rW hC (by omega) hn ⟨hg0, g5_q⟩
      · refine ⟨⟨829, hMm.k79, by omega, by omega⟩, fin _ ?_⟩
        unfold cpW
        rw [if_pos (by omega)]
    have k28 : g < 5 → Ev (d + 2) M_Mo_copies 0 0 28 [(2, 78), (0, p), (0, f), (0, t), (0, g), zJ, zJ, zJ] [(0, PP p t g)] kd mm (zqV kd (fun m1_q => MC m p f t m1_q)) := by
      intro g5_q
      refine T_Mo_copies_28 ⟨fun qc_2 => ?_, fun qc_2 => ?_⟩
      · refine ⟨_, c_Mo_twoOf2 (by omega) (by omega), ?_⟩
        rintro _ _ ⟨rfl, rfl⟩
        have e : PP p f g = 5 * g + f := by unfold PP; rw [if_neg qc_2]
        rw [← e]
        exact k49 g5_q
      · refine ⟨_, c_Mo_twoOf2 (by omega) (by omega), ?_⟩
        rintro _ _ ⟨rfl, rfl⟩
        have e : PP p f g = 5 * f + g := by unfold PP; rw [if_pos (by omega)]
        rw [← e]
        exact k49 g5_q
    refine T_Mo_copies_3 ⟨fun qc_1 => ?_, fun qc_1 => ⟨fun qc_2 => ?_, fun qc_2 => ?_⟩⟩
    · refine ⟨hF, ?_⟩
      rw [show g = 5 by omega] at hC
      exact hC
    · refine ⟨_, c_Mo_twoOf2 (by omega) (by omega), ?_⟩
      rintro _ _ ⟨rfl, rfl⟩
      have e : PP p t g = 5 * g + t := by unfold PP; rw [if_neg qc_2]
      rw [← e]
      exact k28 (by omega)
    · refine ⟨_, c_Mo_twoOf2 (by omega) (by omega), ?_⟩
      rintro _ _ ⟨rfl, rfl⟩
      have e : PP p t g = 5 * t + g := by unfold PP; rw [if_pos (by omega)]
      rw [← e]
      exact k28 (by omega))
  refine S_Mo_copies ?_
  exact qL0 0 m (by omega) ⟨by decide, fun _ _ => rfl, CPI_0⟩
