/-! TABLE, third: sums and rows -/
def SU (m : ZM) (w : Int) (f : Int → Int → Int → Int) (r : Int → Int) (n : Int) : Prop := ∀ k i, 0 ≤ k → k ≤ n → 0 ≤ i → i < w → m 47 (k * w + i) = zS_ f r k i
def TE (m : ZM) (nq na w : Int) (f : Int → Int → Int → Int) (c : Int) : Prop := (∀ j, 0 ≤ j → j < nq → m 50 j = erow nq na c j) ∧ SU m w f (erow nq na c) nq
def SL (m : ZM) (nq w : Int) (f : Int → Int → Int → Int) (r : Int → Int) : Prop := ∀ i, 0 ≤ i → i < w → m 47 (nq * w + i) = zS_ f r nq i
theorem TE.sl {m : ZM} {nq na w c : Int} {f : Int → Int → Int → Int} (h : TE m nq na w f c) (h0 : 0 ≤ nq) : SL m nq w f (erow nq na c) := fun i h1 h2 => h.2 nq i h0 (Int.le_refl _) h1 h2
theorem TE.frame {m m' : ZM} {nq na w c : Int} {f : Int → Int → Int → Int} (h : TE m nq na w f c) (e : m' 47 = m 47) (e2 : m' 50 = m 50) : TE m' nq na w f c := by
  unfold TE SU; rw [e, e2]; exact h
theorem SU_1 {m m1 : ZM} {w l : Int} {f : Int → Int → Int → Int} {r : Int → Int} (hw : 0 ≤ w) (hl : 0 ≤ l) (h : SU m w f r l) (h1 : ∀ x, x < (l + 1) * w → m1 47 x = m 47 x) (h2 : ∀ i, 0 ≤ i → i < w → m1 47 ((l + 1) * w + i) = m 47 (l * w + i) + f l (r l) i) : SU m1 w f r (l + 1) := by
  intro k i k0 k1 i0 i1
  rcases (show k ≤ l ∨ k = l + 1 by omega) with q | q
  · have := mulL (y := k) (z := l + 1) (w := w) (by omega) hw
    rw [h1 _ (by omega)]
    exact h k i k0 q i0 i1
  · rw [q, h2 i i0 i1, h l i hl (Int.le_refl _) i0 i1, zS_1 hl]
theorem c_Table_sumFrom {d : Nat} {kd : ZK} {m : ZM} {nq na ng nr w : Int} {f : Int → Int → Int → Int} {r : Int → Int} {l0 : Int} (hT : TL kd m nq na ng nr w f) (hl : 0 ≤ l0 ∧ l0 ≤ nq) (hr : zrw nq na r) (hR : ∀ j, 0 ≤ j → j < nq → m 50 j = r j) (hS : SU m w f r l0) : CtV (d + 2) M_Table_sumFrom [(2, 45), (0, l0)] kd m (fun m1 => SU m1 w f r nq ∧ ∀ c, c ≠ 47 → m1 c = m c) := by
  have hZ := hT.2.1
  have hsz := hZ.1
  have hww := hZ.2.1
  have L0 := zfor1 (nq) (fun (l : Int) (mm : ZM) => Ev (d + 2) M_Table_sumFrom 0 0 2 [(2, 45), zJ, (0, l)] [] kd mm (zqV kd (fun m1 => SU m1 w f r nq ∧ ∀ c, c ≠ 47 → m1 c = m c))) (fun (l : Int) (mm : ZM) => 0 ≤ l ∧ SU mm w f r l ∧ ∀ c, c ≠ 47 → mm c = m c) (by
    intro l mm hb hI0 KL0
    obtain ⟨hl0, hSl, hF⟩ := hI0
    have hTm := hT.frame (m' := mm) (fun k _ => by rw [hF 45 (by decide)]) (hF 46 (by decide))
    have t0 := hTm.1.2.1.1
    have t1 := hTm.1.2.1.2.1
    have t2 := hTm.1.2.1.2.2.1
    have t3 := hTm.1.2.1.2.2.2.1
    have t4 := hTm.1.2.1.2.2.2.2
    have t5 := hTm.1.2.2.1.1
    have t6 := hTm.1.2.2.1.2.1
    have t7 := hTm.1.2.2.1.2.2.1
    have t8 := hTm.1.2.2.1.2.2.2.1
    have t9 := hTm.1.2.2.1.2.2.2.2.1
    have t10 := hTm.1.2.2.1.2.2.2.2.2
    refine T_Table_sumFrom_2 ?_
    try simp only [t0, t1, t2, t3, t4, t5, t6, t7, t8, t9, t10]
    refine ⟨hTm.1.1, ?_⟩
    refine ⟨fun c1 => ?_, fun c1 => ?_⟩
    · skip
      rw [show l = nq by omega] at hSl
      exact ⟨hSl, hF⟩
    · skip
      refine ⟨hTm.1.1, (hTm.1.i50 (by omega) (by omega)), ?_⟩
      refine ⟨hTm.1.1, _, c_Table_addLine hTm ⟨hl0, by omega⟩ (by rw [hF 50 (by decide), hR l hl0 (by omega)]; exact hr l hl0 (by omega)) (fun i i0 i1 => by rw [hSl l i hl0 (Int.le_refl _) i0 i1]; have := zS_bd (n := l) hT.2.2.2 hr ⟨hl0, by omega⟩ (by omega) ⟨i0, i1⟩; omega), ?_⟩
      rintro m3 ⟨hA, hB, hC⟩
      rw [iw_s (x := l + 1) (by omega) (by omega)]
      rw [hF 50 (by decide), hR l hl0 (by omega)] at hC
      exact KL0 _ (by omega) ⟨by omega, SU_1 (by omega) hl0 hSl hB hC, fun c hc => by rw [hA c hc]; exact hF c hc⟩)
  refine S_Table_sumFrom ?_
  exact L0 l0 m (by omega) ⟨by omega, hS, fun _ _ => rfl⟩
theorem c_Table_begin {d : Nat} {kd : ZK} {m : ZM} {nq na ng nr w : Int} {f : Int → Int → Int → Int} (hT : TL kd m nq na ng nr w f) : CtV (d + 3) M_Table_begin [(2, 45)] kd m (fun m1 => TE m1 nq na w f 0 ∧ ∀ c, c ≠ 47 → c ≠ 50 → m1 c = m c) := by
  have hZ := hT.2.1
  have hsz := hZ.1
  have hww := hZ.2.1
  have L0 := zfor1 (nq) (fun (l : Int) (mm : ZM) => Ev (d + 3) M_Table_begin 0 0 2 [(2, 45), (0, l)] [] kd mm (zqV kd (fun m1 => TE m1 nq na w f 0 ∧ ∀ c, c ≠ 47 → c ≠ 50 → m1 c = m c))) (fun (l : Int) (mm : ZM) => 0 ≤ l ∧ (∀ c, c ≠ 50 → mm c = m c) ∧ ∀ j, 0 ≤ j → j < l → mm 50 j = 0) (by
    intro l mm hb hI0 KL0
    obtain ⟨hl0, hF, hX⟩ := hI0
    have hTm := hT.frame (m' := mm) (fun k _ => by rw [hF 45 (by decide)]) (hF 46 (by decide))
    have t0 := hTm.1.2.1.1
    have t1 := hTm.1.2.1.2.1
    have t2 := hTm.1.2.1.2.2.1
    have t3 := hTm.1.2.1.2.2.2.1
    have t4 := hTm.1.2.1.2.2.2.2
    have t5 := hTm.1.2.2.1.1
    have t6 := hTm.1.2.2.1.2.1
    have t7 := hTm.1.2.2.1.2.2.1
    have t8 := hTm.1.2.2.1.2.2.2.1
    have t9 := hTm.1.2.2.1.2.2.2.2.1
    have t10 := hTm.1.2.2.1.2.2.2.2.2
    refine T_Table_begin_2 ?_
    try simp only [t0, t1, t2, t3, t4, t5, t6, t7, t8, t9, t10]
    refine ⟨hTm.1.1, ?_⟩
    refine ⟨fun c1 => ?_, fun c1 => ?_⟩
    · skip
      refine ⟨hTm.1.1, _, c_Table_clearFirstSums hTm.1 ⟨by omega, by omega⟩, ?_⟩
      rintro m3 ⟨hA, hB⟩
      refine ⟨hTm.1.1, _, c_Table_sumFrom (r := erow nq na 0) (hTm.frame (fun k _ => by rw [hA 45 (by decide)]) (hA 46 (by decide))) ⟨by omega, by omega⟩ (erow_rw _ (by omega)) (fun j j0 j1 => by rw [hA 50 (by decide), hX j j0 (by omega), erow_0 _ (by omega)]) (fun k i k0 k1 i0 i1 => by rw [show k = 0 by omega, Int.zero_mul, Int.zero_add, hB i i0 i1]; rfl), ?_⟩
      rintro m6 ⟨hC, hE⟩
      exact ⟨⟨fun j j0 j1 => by rw [hE 50 (by decide), hA 50 (by decide), hX j j0 (by omega), erow_0 _ (by omega)], hC⟩, fun c c1 c2 => by rw [hE c c1, hA c c1]; exact hF c c2⟩
    · skip
      refine ⟨hTm.1.1, (hTm.1.i50 (by omega) (by omega)), ?_⟩
      rw [iw_s (x := l + 1) (by omega) (by omega)]
      refine KL0 _ (by omega) ⟨by omega, fun c hc => by rw [zup_off hc]; exact hF c hc, fun j j1 j2 => ?_⟩
      rw [zup_at]
      rcases (show j = l ∨ j < l by omega) with q | q
      · rw [q, gup_at]
      · rw [gup_off (by omega)]; exact hX j j1 q)
  refine S_Table_begin ?_
  exact L0 0 m (by omega) ⟨by omega, fun _ _ => rfl, fun j j1 j2 => by omega⟩
theorem c_Table_step {d : Nat} {kd : ZK} {m : ZM} {nq na ng nr w : Int} {f : Int → Int → Int → Int} {c : Int} (hT : TL kd m nq na ng nr w f) (hE : TE m nq na w f c) (hc : 0 ≤ c ∧ c < na ^ nq.toNat) : CtV (d + 3) M_Table_step [(2, 45)] kd m (fun m1 => (c + 1 < na ^ nq.toNat → TE m1 nq na w f (c + 1)) ∧ ∀ e, e ≠ 47 → e ≠ 50 → m1 e = m e) := by
  have hZ := hT.2.1
  have hsz := hZ.1
  have hww := hZ.2.1
  have key : ∀ (mm : ZM) (q : Int), nxI nq na c (mm 50) q → (∀ e, e ≠ 50 → mm e = m e) → (0 ≤ q → mm 50 q ≠ na - 1) → Ev (d + 3) M_Table_step 0 0 39 [(2, 45), (0, q)] [] kd mm (zqV kd (fun m1 => (c + 1 < na ^ nq.toNat → TE m1 nq na w f (c + 1)) ∧ ∀ e, e ≠ 47 → e ≠ 50 → m1 e = m e)) := by
    intro mm q hN hF hQ
    have hNq := hN.1
    have hTm := hT.frame (m' := mm) (fun k _ => by rw [hF 45 (by decide)]) (hF 46 (by decide))
    have h47 := hF 47 (by decide)
    have hd : 0 ≤ q → 0 ≤ mm 50 q ∧ mm 50 q < na := fun h0 => by rw [hN.2.2.1 q h0 (Int.le_refl _)]; exact dgt_in (by omega)
    have t0 := hTm.1.2.1.1
    have t1 := hTm.1.2.1.2.1
    have t2 := hTm.1.2.1.2.2.1
    have t3 := hTm.1.2.1.2.2.2.1
    have t4 := hTm.1.2.1.2.2.2.2
    have t5 := hTm.1.2.2.1.1
    have t6 := hTm.1.2.2.1.2.1
    have t7 := hTm.1.2.2.1.2.2.1
    have t8 := hTm.1.2.2.1.2.2.2.1
    have t9 := hTm.1.2.2.1.2.2.2.2.1
    have t10 := hTm.1.2.2.1.2.2.2.2.2
    refine T_Table_step_39 ?_
    try simp only [t0, t1, t2, t3, t4, t5, t6, t7, t8, t9, t10]
    refine ⟨fun c1 => ?_, fun c1 => ?_⟩
    · skip
      refine ⟨fun h => ?_, fun e _ e2 => hF e e2⟩
      rw [show q = -1 by omega] at hN
      have := nxI_end (by omega) hN hc.1 hc.2
      omega
    · have hnx := nxI_2 (by omega) (by omega) hN (hQ (by omega))
      have hdq := hd (by omega)
      rw [iw_s (x := mm 50 q + 1) (by omega) (by omega)]
      refine ⟨hTm.1.1, (hTm.1.i50 (by omega) (by omega)), (hTm.1.i50 (by omega) (by omega)), ?_⟩
      refine ⟨hTm.1.1, _, c_Table_sumFrom (r := erow nq na (c + 1)) (hTm.frame (fun k _ => by rw [zup_off (by decide)]) (zup_off (by decide))) ⟨by omega, by omega⟩ (erow_rw _ (by omega)) (fun j j0 j1 => by rw [zup_at]; exact hnx j j0 j1) (fun k i k0 k1 i0 i1 => by rw [zup_off (by decide), h47, hE.2 k i k0 (by omega) i0 i1]; exact zS_congr (fun j j0 j1 => by rw [← hnx j j0 (by omega), gup_off (by omega), hN.2.2.1 j j0 (by omega)]) i), ?_⟩
      rintro m3 ⟨hA, hB⟩
      exact ⟨fun _ => ⟨fun j j0 j1 => by rw [hB 50 (by decide), zup_at]; exact hnx j j0 j1, hA⟩, fun e e1 e2 => by rw [hB e e1, zup_off e2]; exact hF e e2⟩
  have L0 := zfor2 (nq) (fun (i : Int) (mm : ZM) (q : Int) => Ev (d + 3) M_Table_step 0 0 7 [(2, 45), (0, q)] [] kd mm (zqV kd (fun m1 => (c + 1 < na ^ nq.toNat → TE m1 nq na w f (c + 1)) ∧ ∀ e, e ≠ 47 → e ≠ 50 → m1 e = m e))) (fun (i : Int) (mm : ZM) (q : Int) => 0 ≤ i ∧ q = nq - 1 - i ∧ nxI nq na c (mm 50) q ∧ ∀ e, e ≠ 50 → mm e = m e) (by
    intro i mm q hb hI0 KL0
    obtain ⟨hi0, hqi, hN, hF⟩ := hI0
    have hTm := hT.frame (m' := mm) (fun k _ => by rw [hF 45 (by decide)]) (hF 46 (by decide))
    have ena : iw (na - 1) = na - 1 := iw_s (by omega) (by omega)
    have t0 := hTm.1.2.1.1
    have t1 := hTm.1.2.1.2.1
    have t2 := hTm.1.2.1.2.2.1
    have t3 := hTm.1.2.1.2.2.2.1
    have t4 := hTm.1.2.1.2.2.2.2
    have t5 := hTm.1.2.2.1.1
    have t6 := hTm.1.2.2.1.2.1
    have t7 := hTm.1.2.2.1.2.2.1
    have t8 := hTm.1.2.2.1.2.2.2.1
    have t9 := hTm.1.2.2.1.2.2.2.2.1
    have t10 := hTm.1.2.2.1.2.2.2.2.2
    refine T_Table_step_7 ?_
    try simp only [t0, t1, t2, t3, t4, t5, t6, t7, t8, t9, t10]
    try simp only [ena]
    refine ⟨fun c1 => ?_, fun c1 => ?_⟩
    · skip
      exact key mm q hN hF (fun h => by first | assumption | omega)
    · skip
      refine ⟨hTm.1.1, (hTm.1.i50 (by omega) (by omega)), hTm.1.1, ?_⟩
      refine ⟨fun c2 => ?_, fun c2 => ?_⟩
      · skip
        exact key mm q hN hF (fun h => by first | assumption | omega)
      · skip
        refine ⟨hTm.1.1, (hTm.1.i50 (by omega) (by omega)), ?_⟩
        rw [iw_s (x := q + -1) (by omega) (by omega)]
        exact KL0 _ _ (by omega) ⟨by omega, by omega, by rw [zup_at, show q + -1 = q - 1 by omega]; exact nxI_1 (by omega) (by omega) hN (Classical.not_not.1 (by assumption)), fun e he => by rw [zup_off he]; exact hF e he⟩)
  have u0 := hT.1.2.1.1
  refine S_Table_step ?_
  try simp only [u0]
  refine ⟨hT.1.1, ?_⟩
  rw [iw_s (by omega) (by omega)]
  exact L0 0 m (nq - 1) (by omega) ⟨by omega, by omega, nxI_0 (by omega) hE.1, fun _ _ => rfl⟩
theorem c_Table_highAt {d : Nat} {kd : ZK} {m : ZM} {nq na ng nr w : Int} {f : Int → Int → Int → Int} {r : Int → Int} {g : Int} (hT : TL kd m nq na ng nr w f) (hS : SL m nq w f r) (hg : 0 ≤ g ∧ g < ng) : CtI (d + 1) M_Table_highAt [(2, 45), (0, g)] kd m (qE m (tHi nq nr f r g)) := by
  have hZ := hT.2.1
  have hsz := hZ.1
  have hww := hZ.2.1
  have h1 := hZ.ln (n := nq) (by omega)
  have h2 := hZ.gr hg
  have ei : iw (nq * w + g * nr + nr) = nq * w + g * nr + nr := iw_s (by omega) (by omega)
  have t0 := hT.1.2.1.1
  have t1 := hT.1.2.1.2.1
  have t2 := hT.1.2.1.2.2.1
  have t3 := hT.1.2.1.2.2.2.1
  have t4 := hT.1.2.1.2.2.2.2
  have t5 := hT.1.2.2.1.1
  have t6 := hT.1.2.2.1.2.1
  have t7 := hT.1.2.2.1.2.2.1
  have t8 := hT.1.2.2.1.2.2.2.1
  have t9 := hT.1.2.2.1.2.2.2.2.1
  have t10 := hT.1.2.2.1.2.2.2.2.2
  have L0 := zfor2 (nr) (fun (j : Int) (s : Int) (i : Int) => Ev (d + 1) M_Table_highAt 0 0 29 [(2, 45), zJ, (0, (nq * w + g * nr)), (0, s), (0, i)] [] kd m (zqI kd (qE m (tHi nq nr f r g)))) (fun (j : Int) (s : Int) (i : Int) => 1 ≤ j ∧ i = nq * w + g * nr + j ∧ s = zhi (j - 1).toNat (fun j => zS_ f r nq (g * nr + j))) (by
    intro j s i hb hI0 KL0
    obtain ⟨hj0, hi, hs⟩ := hI0
    refine T_Table_highAt_29 ?_
    try simp only [t0, t1, t2, t3, t4, t5, t6, t7, t8, t9, t10]
    simp only [ei]
    refine ⟨hT.1.1, ?_⟩
    refine ⟨fun c1 => ?_, fun c1 => ?_⟩
    · skip
      exact ⟨by rw [hs, show j = nr by omega]; rfl, rfl⟩
    · skip
      refine ⟨hT.1.1, (hT.1.i47 (by omega) (by omega)), ?_⟩
      rw [iw_s (x := i + 1) (by omega) (by omega), show i = nq * w + (g * nr + j) by omega, hS _ (by omega) (by omega)]
      have x1 := zhi_1 (i := j - 1) (by omega) (fun j => zS_ f r nq (g * nr + j))
      rw [show j - 1 + 1 = j by omega] at x1
      exact KL0 _ _ (by omega) ⟨by omega, by omega, by rw [show j + 1 - 1 = j by omega, x1, hs]⟩)
  refine S_Table_highAt ?_
  try simp only [t0, t1, t2, t3, t4, t5, t6, t7, t8, t9, t10]
  rw [iw_s (x := nq * w) (by omega) (by omega), iw_s (x := g * nr) (by omega) (by omega), iw_s (x := nq * w + g * nr) (by omega) (by omega), iw_s (x := nq * w + g * nr + 1) (by omega) (by omega)]
  refine ⟨hT.1.1, hT.1.1, hT.1.1, hT.1.1, (hT.1.i47 (by omega) (by omega)), ?_⟩
  exact L0 1 _ _ (by omega) ⟨by omega, rfl, by rw [show nq * w + g * nr = nq * w + (g * nr + 0) by omega, hS _ (by omega) (by omega)]; rfl⟩
theorem tHi_bd {nq na ng nr w : Int} {f : Int → Int → Int → Int} {r : Int → Int} {g : Int} (hZ : TZ nq na ng nr w) (hb : fBd nq na w f) (hr : zrw nq na r) (hg : 0 ≤ g ∧ g < ng) : -1296 ≤ tHi nq nr f r g ∧ tHi nq nr f r g ≤ 1296 := by
  have hsz := hZ.1
  have h2 := hZ.gr hg
  exact zhi_bd _ (fun j j0 j1 => zS_bd hb hr ⟨by omega, Int.le_refl _⟩ (by omega) ⟨by omega, by omega⟩)
theorem c_Table_high {d : Nat} {kd : ZK} {m : ZM} {nq na ng nr w : Int} {f : Int → Int → Int → Int} {r : Int → Int} (hT : TL kd m nq na ng nr w f) (hS : SL m nq w f r) (hr : zrw nq na r) : CtI (d + 2) M_Table_high [(2, 45)] kd m (qE m (tHigh nq ng nr f r)) := by
  have hZ := hT.2.1
  have hsz := hZ.1
  have t0 := hT.1.2.1.1
  have t1 := hT.1.2.1.2.1
  have t2 := hT.1.2.1.2.2.1
  have t3 := hT.1.2.1.2.2.2.1
  have t4 := hT.1.2.1.2.2.2.2
  have t5 := hT.1.2.2.1.1
  have t6 := hT.1.2.2.1.2.1
  have t7 := hT.1.2.2.1.2.2.1
  have t8 := hT.1.2.2.1.2.2.2.1
  have t9 := hT.1.2.2.1.2.2.2.2.1
  have t10 := hT.1.2.2.1.2.2.2.2.2
  have L0 := zfor1 (ng) (fun (g : Int) (t : Int) => Ev (d + 2) M_Table_high 0 0 4 [(2, 45), (0, t), (0, g)] [] kd m (zqI kd (qE m (tHigh nq ng nr f r)))) (fun (g : Int) (t : Int) => 0 ≤ g ∧ t = zsum g.toNat (fun g => tHi nq nr f r g)) (by
    intro g t hb hI0 KL0
    obtain ⟨hg0, ht⟩ := hI0
    have hs := zsum_bd (C := 1296) (f := fun g => tHi nq nr f r g) g.toNat (fun i i0 i1 => tHi_bd hZ hT.2.2.2 hr ⟨i0, by omega⟩)
    refine T_Table_high_4 ?_
    try simp only [t0, t1, t2, t3, t4, t5, t6, t7, t8, t9, t10]
    refine ⟨hT.1.1, ?_⟩
    refine ⟨fun c1 => ?_, fun c1 => ?_⟩
    · skip
      exact ⟨by rw [ht, show g = ng by omega]; rfl, rfl⟩
    · skip
      refine ⟨hT.1.1, _, c_Table_highAt hT hS ⟨hg0, by omega⟩, ?_⟩
      rintro _ _ ⟨rfl, rfl⟩
      have hb2 := tHi_bd hZ hT.2.2.2 hr ⟨hg0, (show g < ng by omega)⟩
      rw [iw_s (x := g + 1) (by omega) (by omega)]
      rw [iw_s (by omega) (by omega)]
      exact KL0 _ (by omega) ⟨by omega, by rw [zsum_1 hg0, ht]⟩)
  refine S_Table_high ?_
  exact L0 0 0 (by omega) ⟨by omega, rfl⟩
theorem c_Table_lowAt {d : Nat} {kd : ZK} {m : ZM} {nq na ng nr w : Int} {f : Int → Int → Int → Int} {r : Int → Int} {g : Int} (hT : TL kd m nq na ng nr w f) (hS : SL m nq w f r) (hg : 0 ≤ g ∧ g < ng) : CtI (d + 1) M_Table_lowAt [(2, 45), (0, g)] kd m (qE m (tLo nq nr f r g)) := by
  have hZ := hT.2.1
  have hsz := hZ.1
  have hww := hZ.2.1
  have h1 := hZ.ln (n := nq) (by omega)
  have h2 := hZ.gr hg
  have ei : iw (nq * w + g * nr + nr) = nq * w + g * nr + nr := iw_s (by omega) (by omega)
  have t0 := hT.1.2.1.1
  have t1 := hT.1.2.1.2.1
  have t2 := hT.1.2.1.2.2.1
  have t3 := hT.1.2.1.2.2.2.1
  have t4 := hT.1.2.1.2.2.2.2
  have t5 := hT.1.2.2.1.1
  have t6 := hT.1.2.2.1.2.1
  have t7 := hT.1.2.2.1.2.2.1
  have t8 := hT.1.2.2.1.2.2.2.1
  have t9 := hT.1.2.2.1.2.2.2.2.1
  have t10 := hT.1.2.2.1.2.2.2.2.2
  have L0 := zfor2 (nr) (fun (j : Int) (s : Int) (i : Int) => Ev (d + 1) M_Table_lowAt 0 0 29 [(2, 45), zJ, (0, (nq * w + g * nr)), (0, s), (0, i)] [] kd m (zqI kd (qE m (tLo nq nr f r g)))) (fun (j : Int) (s : Int) (i : Int) => 1 ≤ j ∧ i = nq * w + g * nr + j ∧ s = zlo (j - 1).toNat (fun j => zS_ f r nq (g * nr + j))) (by
    intro j s i hb hI0 KL0
    obtain ⟨hj0, hi, hs⟩ := hI0
    refine T_Table_lowAt_29 ?_
    try simp only [t0, t1, t2, t3, t4, t5, t6, t7, t8, t9, t10]
    simp only [ei]
    refine ⟨hT.1.1, ?_⟩
    refine ⟨fun c1 => ?_, fun c1 => ?_⟩
    · skip
      exact ⟨by rw [hs, show j = nr by omega]; rfl, rfl⟩
    · skip
      refine ⟨hT.1.1, (hT.1.i47 (by omega) (by omega)), ?_⟩
      rw [iw_s (x := i + 1) (by omega) (by omega), show i = nq * w + (g * nr + j) by omega, hS _ (by omega) (by omega)]
      have x1 := zlo_1 (i := j - 1) (by omega) (fun j => zS_ f r nq (g * nr + j))
      rw [show j - 1 + 1 = j by omega] at x1
      exact KL0 _ _ (by omega) ⟨by omega, by omega, by rw [show j + 1 - 1 = j by omega, x1, hs]⟩)
  refine S_Table_lowAt ?_
  try simp only [t0, t1, t2, t3, t4, t5, t6, t7, t8, t9, t10]
  rw [iw_s (x := nq * w) (by omega) (by omega), iw_s (x := g * nr) (by omega) (by omega), iw_s (x := nq * w + g * nr) (by omega) (by omega), iw_s (x := nq * w + g * nr + 1) (by omega) (by omega)]
  refine ⟨hT.1.1, hT.1.1, hT.1.1, hT.1.1, (hT.1.i47 (by omega) (by omega)), ?_⟩
  exact L0 1 _ _ (by omega) ⟨by omega, rfl, by rw [show nq * w + g * nr = nq * w + (g * nr + 0) by omega, hS _ (by omega) (by omega)]; rfl⟩
theorem tLo_bd {nq na ng nr w : Int} {f : Int → Int → Int → Int} {r : Int → Int} {g : Int} (hZ : TZ nq na ng nr w) (hb : fBd nq na w f) (hr : zrw nq na r) (hg : 0 ≤ g ∧ g < ng) : -1296 ≤ tLo nq nr f r g ∧ tLo nq nr f r g ≤ 1296 := by
  have hsz := hZ.1
  have h2 := hZ.gr hg
  exact zlo_bd _ (fun j j0 j1 => zS_bd hb hr ⟨by omega, Int.le_refl _⟩ (by omega) ⟨by omega, by omega⟩)
theorem c_Table_low {d : Nat} {kd : ZK} {m : ZM} {nq na ng nr w : Int} {f : Int → Int → Int → Int} {r : Int → Int} (hT : TL kd m nq na ng nr w f) (hS : SL m nq w f r) (hr : zrw nq na r) : CtI (d + 2) M_Table_low [(2, 45)] kd m (qE m (tLow nq ng nr f r)) := by
  have hZ := hT.2.1
  have hsz := hZ.1
  have t0 := hT.1.2.1.1
  have t1 := hT.1.2.1.2.1
  have t2 := hT.1.2.1.2.2.1
  have t3 := hT.1.2.1.2.2.2.1
  have t4 := hT.1.2.1.2.2.2.2
  have t5 := hT.1.2.2.1.1
  have t6 := hT.1.2.2.1.2.1
  have t7 := hT.1.2.2.1.2.2.1
  have t8 := hT.1.2.2.1.2.2.2.1
  have t9 := hT.1.2.2.1.2.2.2.2.1
  have t10 := hT.1.2.2.1.2.2.2.2.2
  have L0 := zfor1 (ng) (fun (g : Int) (t : Int) => Ev (d + 2) M_Table_low 0 0 4 [(2, 45), (0, t), (0, g)] [] kd m (zqI kd (qE m (tLow nq ng nr f r)))) (fun (g : Int) (t : Int) => 0 ≤ g ∧ t = zsum g.toNat (fun g => tLo nq nr f r g)) (by
    intro g t hb hI0 KL0
    obtain ⟨hg0, ht⟩ := hI0
    have hs := zsum_bd (C := 1296) (f := fun g => tLo nq nr f r g) g.toNat (fun i i0 i1 => tLo_bd hZ hT.2.2.2 hr ⟨i0, by omega⟩)
    refine T_Table_low_4 ?_
    try simp only [t0, t1, t2, t3, t4, t5, t6, t7, t8, t9, t10]
    refine ⟨hT.1.1, ?_⟩
    refine ⟨fun c1 => ?_, fun c1 => ?_⟩
    · skip
      exact ⟨by rw [ht, show g = ng by omega]; rfl, rfl⟩
    · skip
      refine ⟨hT.1.1, _, c_Table_lowAt hT hS ⟨hg0, by omega⟩, ?_⟩
      rintro _ _ ⟨rfl, rfl⟩
      have hb2 := tLo_bd hZ hT.2.2.2 hr ⟨hg0, (show g < ng by omega)⟩
      rw [iw_s (x := g + 1) (by omega) (by omega)]
      rw [iw_s (by omega) (by omega)]
      exact KL0 _ (by omega) ⟨by omega, by rw [zsum_1 hg0, ht]⟩)
  refine S_Table_low ?_
  exact L0 0 0 (by omega) ⟨by omega, rfl⟩
