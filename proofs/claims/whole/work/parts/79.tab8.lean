/-! TABLE, eighth: the search itself -/
def MK (m : ZM) (na w : Int) (f : Int → Int → Int → Int) (q j : Int) : Prop := ∀ a, j < a → 0 ≤ a → a < na → m 49 (q * na + a) ≠ 0 → ∃ b, 0 ≤ b ∧ b < na ∧ b ≠ a ∧ (∀ i, 0 ≤ i → i < w → f q a i ≤ f q b i) ∧ (a < b → m 49 (q * na + b) = 0)
theorem MK_w {m m1 : ZM} {na w : Int} {f : Int → Int → Int → Int} {q j : Int} (h : MK m na w f q j) (e : ∀ a, 0 ≤ a → a < na → m1 49 (q * na + a) = m 49 (q * na + a)) : MK m1 na w f q j := fun a h1 h2 h3 h4 => by
  rw [e a h2 h3] at h4
  obtain ⟨b, b0, b1, b2, b3, b4⟩ := h a h1 h2 h3 h4
  exact ⟨b, b0, b1, b2, b3, fun h => by rw [e b b0 b1]; exact b4 h⟩
theorem MK_1 {m : ZM} {na w v : Int} {f : Int → Int → Int → Int} {q j : Int} (h : MK m na w f q j) (hj : 0 ≤ j ∧ j < na) (hv : v = zb (isCv m na w f q j)) : MK (zup m 49 (q * na + j) v) na w f q (j - 1) := fun a h1 h2 h3 h4 => by
  rw [zup_at] at h4 ⊢
  rcases (show a = j ∨ j < a by omega) with z | z
  · subst z
    rw [gup_at, hv] at h4
    obtain ⟨b, b0, b1, b2, b3⟩ := zb_ne0.1 h4
    exact ⟨b, b0.1, b0.2, b1, b3, fun hb => by rw [gup_off (by omega)]; exact b2⟩
  · rw [gup_off (by omega)] at h4
    obtain ⟨b, b0, b1, b2, b3, b4⟩ := h a z h2 h3 h4
    exact ⟨b, b0, b1, b2, b3, fun hb => by rw [gup_off (by omega)]; exact b4 hb⟩
theorem MK_need {m : ZM} {nq na ng nr w : Int} {f : Int → Int → Int → Int} (h : ∀ q, 0 ≤ q → q < nq → MK m na w f q (-1)) : ∀ q, 0 ≤ q → q < nq → ∀ a, 0 ≤ a → a < na → m 49 (q * na + a) ≠ 0 → ∃ b, 0 ≤ b ∧ b < na ∧ (∀ i, 0 ≤ i → i < w → f q a i ≤ f q b i) ∧ ¬ m 49 (q * na + b) ≠ 0 := by
  intro q q0 q1
  refine tMarks (F := fun a => m 49 (q * na + a) ≠ 0) (C := fun b a => ∀ i, 0 ≤ i → i < w → f q a i ≤ f q b i) (fun a b c h1 h2 i i0 i1 => Int.le_trans (h2 i i0 i1) (h1 i i0 i1)) (fun j j0 j1 hF => ?_)
  obtain ⟨b, b0, b1, b2, b3, b4⟩ := h q q0 q1 j (by omega) j0 j1 hF
  exact ⟨b, b0, b1, b2, b3, fun hb hc => hc (b4 hb)⟩
theorem c_Table_markNeedless {d : Nat} {kd : ZK} {m : ZM} {nq na ng nr w : Int} {f : Int → Int → Int → Int} (hT : TL kd m nq na ng nr w f) : CtV (d + 3) M_Table_markNeedless [(2, 45)] kd m (fun m1 => (∀ q, 0 ≤ q → q < nq → MK m1 na w f q (-1)) ∧ ∀ e, e ≠ 49 → m1 e = m e) := by
  have hZ := hT.2.1
  have hsz := hZ.1
  have hww := hZ.2.1
  have L0 := zfor1 (nq) (fun (q : Int) (mm : ZM) => Ev (d + 3) M_Table_markNeedless 0 0 2 [(2, 45), (0, q), zJ, zJ] [] kd mm (zqV kd (fun m1 => (∀ q, 0 ≤ q → q < nq → MK m1 na w f q (-1)) ∧ ∀ e, e ≠ 49 → m1 e = m e))) (fun (q : Int) (mm : ZM) => 0 ≤ q ∧ (∀ e, e ≠ 49 → mm e = m e) ∧ ∀ p, 0 ≤ p → p < q → MK mm na w f p (-1)) (by
    intro q mm hb hI KL0
    obtain ⟨hq0, hF, hP⟩ := hI
    have hTm := hT.frame (m' := mm) (fun k _ => by rw [hF 45 (by decide)]) (hF 46 (by decide))
    have t0 := hTm.1.2.1.1
    have t1 := hTm.1.2.1.2.1
    have t2 := hTm.1.2.1.2.2.1
    have t3 := hTm.1.2.1.2.2.2.1
    have t4 := hTm.1.2.1.2.2.2.2
    have t5 := hTm.1.2.2.1.1
    have t6 := hTm.1.2.2.1.2.1
    have t7 := hTm.1.2.2.1.2.2.1
    have t8 := hTm.1.2.2.1.2.2.2.1
    have t9 := hTm.1.2.2.1.2.2.2.2.1
    have t10 := hTm.1.2.2.1.2.2.2.2.2
    have branch : q < nq → True := fun _ => trivial
    refine T_Table_markNeedless_2 ?_
    try simp only [t0, t1, t2, t3, t4, t5, t6, t7, t8, t9, t10]
    refine ⟨hTm.1.1, ?_⟩
    refine ⟨fun c1 => ?_, fun c1 => ?_⟩
    · skip
      exact ⟨fun p p0 p1 => hP p p0 (by omega), hF⟩
    · skip
      refine ⟨hTm.1.1, ?_⟩
      have hql : q < nq := by omega
      have hiq := hZ.ix (q := q) (a := 0) ⟨hq0, hql⟩ ⟨by omega, by omega⟩
      rw [iw_s (x := q * na) (by omega) (by omega)]
      have L51 := zfor2 (na) (fun (i : Int) (mm : ZM) (x : Int) => Ev (d + 3) M_Table_markNeedless 0 0 51 [(2, 45), (0, q), (0, (q * na)), (0, x)] [] kd mm (zqV kd (fun m1 => (∀ q, 0 ≤ q → q < nq → MK m1 na w f q (-1)) ∧ ∀ e, e ≠ 49 → m1 e = m e))) (fun (i : Int) (mm : ZM) (x : Int) => (0 ≤ i ∧ x = q * na + (na - 1 - i)) ∧ (∀ e, e ≠ 49 → mm e = m e) ∧ (∀ p, 0 ≤ p → p < q → MK mm na w f p (-1)) ∧ MK mm na w f q (na - 1 - i)) (by
        intro i mm x hb hI KL51
        obtain ⟨⟨hi0, hx⟩, hF, hP, hK⟩ := hI
        have hTm := hT.frame (m' := mm) (fun k _ => by rw [hF 45 (by decide)]) (hF 46 (by decide))
        have t0 := hTm.1.2.1.1
        have t1 := hTm.1.2.1.2.1
        have t2 := hTm.1.2.1.2.2.1
        have t3 := hTm.1.2.1.2.2.2.1
        have t4 := hTm.1.2.1.2.2.2.2
        have t5 := hTm.1.2.2.1.1
        have t6 := hTm.1.2.2.1.2.1
        have t7 := hTm.1.2.2.1.2.2.1
        have t8 := hTm.1.2.2.1.2.2.2.1
        have t9 := hTm.1.2.2.1.2.2.2.2.1
        have t10 := hTm.1.2.2.1.2.2.2.2.2
        refine T_Table_markNeedless_51 ?_
        try simp only [t0, t1, t2, t3, t4, t5, t6, t7, t8, t9, t10]
        refine ⟨fun c1 => ?_, fun c1 => ?_⟩
        · skip
          rw [iw_s (x := q + 1) (by omega) (by omega)]
          refine KL0 mm (by omega) ⟨by omega, hF, fun p p0 p1 => ?_⟩
          rcases (show p < q ∨ p = q by omega) with z | z
          · exact hP p p0 z
          · rw [z, show (-1 : Int) = na - 1 - i by omega]; exact hK
        · skip
          refine ⟨hTm.1.1, ?_⟩
          refine ⟨hTm.1.1, _, (by rw [hx]; exact c_Table_isCovered hTm ⟨hq0, hql⟩ ⟨by omega, by omega⟩), ?_⟩
          rintro _ _ ⟨rfl, rfl⟩
          try simp only [t8]
          refine ⟨zb_01, (hTm.1.i49 (by omega) (by have := hZ.ix (q := q) (a := na - 1 - i) ⟨hq0, hql⟩ ⟨by omega, by omega⟩; omega)), ?_⟩
          have hix := hZ.ix (q := q) (a := na - 1 - i) ⟨hq0, hql⟩ ⟨by omega, by omega⟩
          rw [iw_s (x := x + -1) (by omega) (by omega)]
          refine KL51 _ _ (by omega) ⟨⟨by omega, by omega⟩, fun e he => by rw [zup_off he]; exact hF e he, fun p p0 p1 => MK_w (hP p p0 p1) (fun a a0 a1 => ?_), ?_⟩
          · have h1 := mulL (y := p) (z := q) (w := na) p1 (by omega)
            rw [zup_at, gup_off (by omega)]
          · rw [hx, show na - 1 - (i + 1) = na - 1 - i - 1 by omega]
            exact MK_1 hK ⟨by omega, by omega⟩ rfl)
      have L19 := zfor2 (na) (fun (i : Int) (mm : ZM) (x : Int) => Ev (d + 3) M_Table_markNeedless 0 0 19 [(2, 45), (0, q), (0, (q * na)), (0, x)] [] kd mm (zqV kd (fun m1 => (∀ q, 0 ≤ q → q < nq → MK m1 na w f q (-1)) ∧ ∀ e, e ≠ 49 → m1 e = m e))) (fun (i : Int) (mm : ZM) (x : Int) => (0 ≤ i ∧ x = q * na + i) ∧ (∀ e, e ≠ 49 → mm e = m e) ∧ (∀ p, 0 ≤ p → p < q → MK mm na w f p (-1))) (by
        intro i mm x hb hI KL19
        obtain ⟨⟨hi0, hx⟩, hF, hP⟩ := hI
        have hiq := hZ.ix (q := q) (a := 0) ⟨hq0, hql⟩ ⟨by omega, by omega⟩
        have hq64 := mulL (y := q) (z := nq) (w := na) hql (by omega)
        have hn64 := hZ.2.2.1
        have en : iw (q * na + na) = q * na + na := iw_s (by omega) (by omega)
        have hTm := hT.frame (m' := mm) (fun k _ => by rw [hF 45 (by decide)]) (hF 46 (by decide))
        have t0 := hTm.1.2.1.1
        have t1 := hTm.1.2.1.2.1
        have t2 := hTm.1.2.1.2.2.1
        have t3 := hTm.1.2.1.2.2.2.1
        have t4 := hTm.1.2.1.2.2.2.2
        have t5 := hTm.1.2.2.1.1
        have t6 := hTm.1.2.2.1.2.1
        have t7 := hTm.1.2.2.1.2.2.1
        have t8 := hTm.1.2.2.1.2.2.2.1
        have t9 := hTm.1.2.2.1.2.2.2.2.1
        have t10 := hTm.1.2.2.1.2.2.2.2.2
        refine T_Table_markNeedless_19 ?_
        try simp only [t0, t1, t2, t3, t4, t5, t6, t7, t8, t9, t10]
        simp only [en]
        refine ⟨hTm.1.1, ?_⟩
        refine ⟨fun c1 => ?_, fun c1 => ?_⟩
        · skip
          refine ⟨hTm.1.1, ?_⟩
          rw [iw_s (x := q * na + na - 1) (by omega) (by omega)]
          exact L51 0 mm _ (by omega) ⟨⟨by omega, by omega⟩, hF, hP, fun a a0 a1 a2 => by omega⟩
        · skip
          refine ⟨hTm.1.1, (hTm.1.i49 (by omega) (by omega)), ?_⟩
          rw [iw_s (x := x + 1) (by omega) (by omega)]
          refine KL19 _ _ (by omega) ⟨⟨by omega, by omega⟩, fun e he => by rw [zup_off he]; exact hF e he, fun p p0 p1 => MK_w (hP p p0 p1) (fun a a0 a1 => ?_)⟩
          have h1 := mulL (y := p) (z := q) (w := na) p1 (by omega)
          rw [zup_at, gup_off (by omega)])
      exact L19 0 mm _ (by omega) ⟨⟨by omega, by omega⟩, hF, hP⟩)
  refine S_Table_markNeedless ?_
  exact L0 0 m (by omega) ⟨by omega, fun _ _ => rfl, fun p p0 p1 => by omega⟩
theorem SU_put {m m1 : ZM} {w n a : Int} {f : Int → Int → Int → Int} {r : Int → Int} (hw : 0 ≤ w) (hn : 0 ≤ n) (h : SU m w f r n) (h1 : ∀ x, x < (n + 1) * w → m1 47 x = m 47 x) (h2 : ∀ i, 0 ≤ i → i < w → m1 47 ((n + 1) * w + i) = m 47 (n * w + i) + f n a i) : SU m1 w f (zput r n a) (n + 1) := by
  intro k i k0 k1 i0 i1
  have hc : ∀ q, q ≤ n → zS_ f (zput r n a) q i = zS_ f r q i := fun q hq => zS_congr (fun j j0 j1 => by unfold zput; rw [if_neg (by omega)]) i
  rcases (show k ≤ n ∨ k = n + 1 by omega) with q | q
  · have := mulL (y := k) (z := n + 1) (w := w) (by omega) hw
    rw [h1 _ (by omega), hc k q]
    exact h k i k0 q i0 i1
  · rw [q, h2 i i0 i1, h n i hn (Int.le_refl _) i0 i1, zS_1 hn, hc n (Int.le_refl _)]
    unfold zput
    rw [if_pos rfl]
theorem SU_w {m m1 : ZM} {w n : Int} {f : Int → Int → Int → Int} {r : Int → Int} (hw : 0 ≤ w) (h : SU m w f r n) (h1 : ∀ x, x < (n + 1) * w → m1 47 x = m 47 x) : SU m1 w f r n := by
  intro k i k0 k1 i0 i1
  have := mulL (y := k) (z := n + 1) (w := w) (by omega) hw
  rw [h1 _ (by omega)]
  exact h k i k0 k1 i0 i1
theorem c_search_1 {d : Nat} {kd : ZK} {nq na ng nr w : Int} {f : Int → Int → Int → Int} {t : Nat} (ih : t ≠ 0 → ∀ (n M : Int) (m : ZM) (r : Int → Int), n + (((t - 1 : Nat) : Int) + 1) = nq → 0 ≤ n → TL kd m nq na ng nr w f → (∀ q, 0 ≤ q → q < n → 0 ≤ r q ∧ r q < na) → SU m w f r n → HP m nq na w f 0 → m 45 11 = M → CtV (d + t + 1) M_Table_search [(2, 45), (0, n)] kd m (fun m1 => (∃ M1, m1 45 11 = M1 ∧ tRes nq na ng nr f (fun q a => m 49 (q * na + a) ≠ 0) r n na M M1) ∧ (∀ k, k ≠ 11 → m1 45 k = m 45 k) ∧ (∀ e, e ≠ 45 → e ≠ 47 → m1 e = m e) ∧ ∀ x, x < (n + 1) * w → m1 47 x = m 47 x)) : ∀ (n M : Int) (m : ZM) (r : Int → Int), n + ((t : Int) + 1) = nq → 0 ≤ n → TL kd m nq na ng nr w f → (∀ q, 0 ≤ q → q < n → 0 ≤ r q ∧ r q < na) → SU m w f r n → HP m nq na w f 0 → m 45 11 = M → CtV (d + t + 2) M_Table_search [(2, 45), (0, n)] kd m (fun m1 => (∃ M1, m1 45 11 = M1 ∧ tRes nq na ng nr f (fun q a => m 49 (q * na + a) ≠ 0) r n na M M1) ∧ (∀ k, k ≠ 11 → m1 45 k = m 45 k) ∧ (∀ e, e ≠ 45 → e ≠ 47 → m1 e = m e) ∧ ∀ x, x < (n + 1) * w → m1 47 x = m 47 x) := by
  intro n M m r hnt hn0 hT hr hS hH hM
  have hZ := hT.2.1
  have hsz := hZ.1
  have hww := hZ.2.1
  have hn1 : n < nq := by omega
  generalize hNd : (fun q a : Int => m 49 (q * na + a) ≠ 0) = N
  have hNe : ∀ a, N n a ↔ m 49 (n * na + a) ≠ 0 := fun a => by rw [← hNd]
  have L0 := zfor1 (na) (fun (a : Int) (mm : ZM) => Ev (d + t + 2) M_Table_search 0 0 17 [(2, 45), (0, n), (0, a), zJ] [] kd mm (zqV kd (fun m1 => (∃ M1, m1 45 11 = M1 ∧ tRes nq na ng nr f N r n na M M1) ∧ (∀ k, k ≠ 11 → m1 45 k = m 45 k) ∧ (∀ e, e ≠ 45 → e ≠ 47 → m1 e = m e) ∧ ∀ x, x < (n + 1) * w → m1 47 x = m 47 x))) (fun (a : Int) (mm : ZM) => 0 ≤ a ∧ (∃ M1, mm 45 11 = M1 ∧ tRes nq na ng nr f N r n a M M1) ∧ (∀ k, k ≠ 11 → mm 45 k = m 45 k) ∧ (∀ e, e ≠ 45 → e ≠ 47 → mm e = m e) ∧ ∀ x, x < (n + 1) * w → mm 47 x = m 47 x) (by
    intro a mm hb hI0 KL0
    obtain ⟨ha0, ⟨M1, hM1, hRes⟩, h45, hFr, h47⟩ := hI0
    have hTm : TL kd mm nq na ng nr w f := hT.frame h45 (hFr 46 (by decide) (by decide))
    have t0 := hTm.1.2.1.1
    have t1 := hTm.1.2.1.2.1
    have t2 := hTm.1.2.1.2.2.1
    have t3 := hTm.1.2.1.2.2.2.1
    have t4 := hTm.1.2.1.2.2.2.2
    have t5 := hTm.1.2.2.1.1
    have t6 := hTm.1.2.2.1.2.1
    have t7 := hTm.1.2.2.1.2.2.1
    have t8 := hTm.1.2.2.1.2.2.2.1
    have t9 := hTm.1.2.2.1.2.2.2.2.1
    have t10 := hTm.1.2.2.1.2.2.2.2.2
    have hix : a < na → (0 ≤ n * na ∧ n * na + a < 64) := fun h => by have := hZ.ix ⟨hn0, hn1⟩ ⟨ha0, h⟩; omega
    have h49 : mm 49 = m 49 := hFr 49 (by decide) (by decide)
    have eix : a < na → iw (iw (n * na) + a) = n * na + a := fun h => by have := hix h; rw [iw_s (x := n * na) (by omega) (by omega), iw_s (by omega) (by omega)]
    have en1 : iw (n + 1) = n + 1 := iw_s (by omega) (by omega)
    have hSm := SU_w hww.2.1 hS h47
    refine T_Table_search_17 ?_
    try simp only [t0, t1, t2, t3, t4, t5, t6, t7, t8, t9, t10]
    simp only [en1]
    refine ⟨hTm.1.1, ?_⟩
    refine ⟨fun c1 => ?_, fun c1 => ?_⟩
    · skip
      refine ⟨⟨M1, hM1, ?_⟩, h45, hFr, h47⟩
      rw [show a = na by omega] at hRes
      exact hRes
    · skip
      refine ⟨hTm.1.1, hTm.1.1, (by rw [eix (by omega)]; exact hTm.1.i49 (by have := hix (by omega); omega) (by have := hix (by omega); omega)), ?_⟩
      refine ⟨fun c2 => ?_, fun c2 => ?_⟩
      · skip
        rw [iw_s (x := a + 1) (by omega) (by omega)]
        have hN : N n a := by
          rw [hNe, ← h49]
          rw [eix (by omega)] at c2
          exact c2
        exact KL0 mm (by omega) ⟨by omega, ⟨M1, hM1, tRes_skip hn1 hN hRes⟩, h45, hFr, h47⟩
      · skip
        refine ⟨hTm.1.1, _, c_Table_addLine hTm ⟨hn0, hn1⟩ ⟨ha0, by omega⟩ (fun i i0 i1 => by rw [hSm n i hn0 (Int.le_refl _) i0 i1]; have := zS_bd2 hT.2.2.2 hr ⟨hn0, by omega⟩ (by omega) ⟨i0, i1⟩; omega), ?_⟩
        rintro m3 ⟨hA, hB, hC⟩
        have hT3 : TL kd m3 nq na ng nr w f := hTm.frame (fun k _ => by rw [hA 45 (by decide)]) (hA 46 (by decide))
        have hS3 := SU_put (a := a) hww.2.1 hn0 hSm hB hC
        have hr3 : ∀ q, 0 ≤ q → q < n + 1 → 0 ≤ zput r n a q ∧ zput r n a q < na := fun q q0 q1 => by
          unfold zput
          split
          · exact ⟨ha0, by omega⟩
          · exact hr q q0 (by omega)
        have hH3 : HP m3 nq na w f 0 := fun k i k0 k1 i0 i1 => by rw [hA 48 (by decide), hFr 48 (by decide) (by decide)]; exact hH k i k0 k1 i0 i1
        refine ⟨hTm.1.1, _, c_Table_hopeAt hT3 ⟨by omega, by omega⟩ hr3 (fun i i0 i1 => hS3 (n + 1) i (by omega) (Int.le_refl _) i0 i1) hH3, ?_⟩
        rintro _ _ ⟨rfl, rfl⟩
        have h311 : m3 45 11 = M1 := by rw [hA 45 (by decide)]; exact hM1
        have h30 : m3 45 0 = nq := by rw [hA 45 (by decide)]; exact t0
        simp only [h311, h30]
        refine ⟨hTm.1.1, ?_⟩
        refine ⟨fun c3 => ?_, fun c3 => ?_⟩
        · skip
          rw [iw_s (x := a + 1) (by omega) (by omega)]
          exact KL0 m3 (by omega) ⟨by omega, ⟨M1, h311, tRes_prune hn0 hn1 (by assumption) hRes⟩, fun k hk => by rw [hA 45 (by decide)]; exact h45 k hk, fun e e1 e2 => by rw [hA e e2]; exact hFr e e1 e2, fun x hx => by rw [hB x hx]; exact h47 x hx⟩
        · skip
          refine ⟨hTm.1.1, ?_⟩
          refine ⟨fun c4 => ?_, fun c4 => ?_⟩
          · skip
            refine ⟨_, ih (by omega) (n + 1) M1 m3 (zput r n a) (by omega) (by omega) hT3 hr3 hS3 hH3 h311, ?_⟩
            rintro m9 ⟨⟨M2, hM2, hR2⟩, hD, hE, hG⟩
            rw [iw_s (x := a + 1) (by omega) (by omega)]
            rw [show (fun q a : Int => m3 49 (q * na + a) ≠ 0) = N by rw [← hNd, hA 49 (by decide), h49]] at hR2
            have hmn := mulS (n + 1) w
            exact KL0 _ (by omega) ⟨by omega, ⟨M2, hM2, tRes_rec hn0 (by omega) hRes hR2⟩, fun k hk => by rw [hD k hk, hA 45 (by decide)]; exact h45 k hk, fun e e1 e2 => by rw [hE e e1 e2, hA e e2]; exact hFr e e1 e2, fun x hx => by rw [hG x (by omega), hB x hx]; exact h47 x hx⟩
          · skip
            refine ⟨hTm.1.1, ?_⟩
            rw [iw_s (x := a + 1) (by omega) (by omega)]
            exact KL0 _ (by omega) ⟨by omega, ⟨_, by rw [zup_at, gup_at], tRes_leaf hn0 (by omega) ⟨ha0, by omega⟩ hr (by omega) hRes⟩, fun k hk => by rw [zup_at, gup_off hk, hA 45 (by decide)]; exact h45 k hk, fun e e1 e2 => by rw [zup_off e1, hA e e2]; exact hFr e e1 e2, fun x hx => by rw [zup_off (by decide), hB x hx]; exact h47 x hx⟩)
  have t0 := hT.1.2.1.1
  have t1 := hT.1.2.1.2.1
  have t2 := hT.1.2.1.2.2.1
  have t3 := hT.1.2.1.2.2.2.1
  have t4 := hT.1.2.1.2.2.2.2
  have t5 := hT.1.2.2.1.1
  have t6 := hT.1.2.2.1.2.1
  have t7 := hT.1.2.2.1.2.2.1
  have t8 := hT.1.2.2.1.2.2.2.1
  have t9 := hT.1.2.2.1.2.2.2.2.1
  have t10 := hT.1.2.2.1.2.2.2.2.2
  refine S_Table_search ?_
  try simp only [t0, t1, t2, t3, t4, t5, t6, t7, t8, t9, t10]
  refine ⟨hT.1.1, ?_⟩
  refine ⟨fun c1 => ?_, fun c1 => ?_⟩
  · skip
    first | exact absurd hn1 (by omega) | exact absurd hsz.1.2 (by omega)
  · skip
    refine ⟨fun c2 => ?_, fun c2 => ?_⟩
    · skip
      exact L0 0 m (by omega) ⟨by omega, ⟨M, hM, tRes_0 hn0 hn1⟩, fun _ _ => rfl, fun _ _ _ => rfl, fun _ _ => rfl⟩
    · skip
      first | exact absurd hn1 (by omega) | exact absurd hsz.1.2 (by omega)
theorem c_Table_search {d : Nat} {kd : ZK} {nq na ng nr w : Int} {f : Int → Int → Int → Int} : ∀ (t : Nat), ∀ (n M : Int) (m : ZM) (r : Int → Int), n + ((t : Int) + 1) = nq → 0 ≤ n → TL kd m nq na ng nr w f → (∀ q, 0 ≤ q → q < n → 0 ≤ r q ∧ r q < na) → SU m w f r n → HP m nq na w f 0 → m 45 11 = M → CtV (d + t + 2) M_Table_search [(2, 45), (0, n)] kd m (fun m1 => (∃ M1, m1 45 11 = M1 ∧ tRes nq na ng nr f (fun q a => m 49 (q * na + a) ≠ 0) r n na M M1) ∧ (∀ k, k ≠ 11 → m1 45 k = m 45 k) ∧ (∀ e, e ≠ 45 → e ≠ 47 → m1 e = m e) ∧ ∀ x, x < (n + 1) * w → m1 47 x = m 47 x) := by
  intro t
  induction t with
  | zero => exact c_search_1 (t := 0) (fun h => absurd rfl h)
  | succ t ih => exact c_search_1 (t := t + 1) (fun _ => ih)
def isMA (nq na ng nr : Int) (f : Int → Int → Int → Int) (u x : Int) : Prop := u ≤ x ∧ (∀ r, zrw nq na r → tHigh nq ng nr f r ≤ x) ∧ (x = u ∨ ∃ r, zrw nq na r ∧ tHigh nq ng nr f r = x)
theorem isMA.most {nq na ng nr u x : Int} {f : Int → Int → Int → Int} (h : isMA nq na ng nr f u x) {r : Int → Int} (hr : zrw nq na r) (hu : u ≤ tHigh nq ng nr f r) : isMost nq na ng nr f x := by
  refine ⟨h.2.1, ?_⟩
  rcases h.2.2 with q | q
  · have := h.2.1 r hr
    exact ⟨r, hr, by omega⟩
  · exact q
theorem TS.put11 {kd : ZK} {m : ZM} {nq na ng nr w v : Int} (h : TS kd m nq na ng nr w) : TS kd (zup m 45 11 v) nq na ng nr w := h.frame2 (fun k hk => by rw [zup_at, gup_off hk])
theorem tHigh_0 {ng nr : Int} {f : Int → Int → Int → Int} {r : Int → Int} (h : 1 ≤ nr) : tHigh 0 ng nr f r = 0 := by
  unfold tHigh tHi
  refine zsum_zero _ (fun g _ _ => ?_)
  obtain ⟨j, _, _, e⟩ := zhi_at (h := fun j => zS_ f r 0 (g * nr + j)) (nr - 1).toNat
  rw [e]
  rfl
theorem c_Table_mostAbove {d : Nat} {kd : ZK} {m : ZM} {nq na ng nr w : Int} {f : Int → Int → Int → Int} {u : Int} (hT : TL kd m nq na ng nr w f) (hu : 0 ≤ u) : CtI (d + 19) M_Table_mostAbove [(2, 45), (0, u)] kd m (fun x m1 => isMA nq na ng nr f u x ∧ (∀ k, k ≠ 11 → m1 45 k = m 45 k) ∧ ∀ e, e ≠ 45 → e ≠ 47 → e ≠ 48 → e ≠ 49 → m1 e = m e) := by
  have hZ := hT.2.1
  have hsz := hZ.1
  have hww := hZ.2.1
  have hT0 : TL kd (zup m 45 11 u) nq na ng nr w f := hT.frame (fun k hk => by rw [zup_at, gup_off hk]) (zup_off (by decide))
  refine S_Table_mostAbove ⟨hT.1.1, hT.1.1, _, c_Table_clearFirstSums hT0.1 ⟨by omega, by omega⟩, ?_⟩
  rintro m3 ⟨hA, hB⟩
  have hT3 := hT0.frame (m' := m3) (fun k _ => by rw [hA 45 (by decide)]) (hA 46 (by decide))
  refine ⟨hT.1.1, _, c_Table_fillHopes hT3, ?_⟩
  rintro m6 ⟨hH, hC⟩
  have hT6 := hT3.frame (m' := m6) (fun k _ => by rw [hC 45 (by decide)]) (hC 46 (by decide))
  refine ⟨hT.1.1, _, c_Table_markNeedless hT6, ?_⟩
  rintro m9 ⟨hK, hD⟩
  have hT9 := hT6.frame (m' := m9) (fun k _ => by rw [hD 45 (by decide)]) (hD 46 (by decide))
  have hF : ∀ e, e ≠ 45 → e ≠ 47 → e ≠ 48 → e ≠ 49 → m9 e = m e := fun e e1 e2 e3 e4 => by rw [hD e e4, hC e e3, hA e e2, zup_off e1]
  have h45 : ∀ k, k ≠ 11 → m9 45 k = m 45 k := fun k hk => by rw [hD 45 (by decide), hC 45 (by decide), hA 45 (by decide), zup_at, gup_off hk]
  have h11 : m9 45 11 = u := by rw [hD 45 (by decide), hC 45 (by decide), hA 45 (by decide), zup_at, gup_at]
  have hH9 : HP m9 nq na w f 0 := fun k i k0 k1 i0 i1 => by rw [hD 48 (by decide)]; exact hH k i k0 k1 i0 i1
  have hS9 : SU m9 w f (fun _ => 0) 0 := fun k i k0 k1 i0 i1 => by
    rw [show k = 0 by omega, Int.zero_mul, Int.zero_add, hD 47 (by decide), hC 47 (by decide), hB i i0 i1]
    rfl
  have t0 := hT9.1.2.1.1
  refine ⟨hT.1.1, ?_⟩
  rw [t0]
  refine ⟨fun c1 => ?_, fun c1 => ?_⟩
  · refine ⟨hT.1.1, ?_⟩
    rw [h11]
    refine ⟨⟨Int.le_refl _, fun r _ => ?_, Or.inl rfl⟩, h45, hF⟩
    rw [show nq = 0 by omega, tHigh_0 (by omega)]
    exact hu
  · refine ⟨hT.1.1, _, c_Table_hopeAt (r := fun _ => 0) hT9 ⟨by omega, by omega⟩ (fun q q0 q1 => by omega) (fun i i0 i1 => hS9 0 i (by omega) (by omega) i0 i1) hH9, ?_⟩
    rintro _ _ ⟨rfl, rfl⟩
    rw [h11]
    refine ⟨hT.1.1, fun c2 => ?_, fun c2 => ?_⟩
    · refine ⟨hT.1.1, ⟨Int.le_refl _, fun r hr => Int.le_trans (tHopeAt_ge hr (by omega) (by omega) (fun q q0 q1 => by omega)) c2, Or.inl rfl⟩, h45, hF⟩
    · have hd : ∃ e : Nat, 15 = e + (nq - 1).toNat := ⟨15 - (nq - 1).toNat, by omega⟩
      obtain ⟨e, he⟩ := hd
      have key := c_Table_search (d := d + e + 1) (kd := kd) (nq := nq) (na := na) (ng := ng) (nr := nr) (w := w) (f := f) (nq - 1).toNat 0 u m9 (fun _ => 0) (by omega) (by omega) hT9 (fun q q0 q1 => by omega) hS9 hH9 h11
      rw [show d + e + 1 + (nq - 1).toNat + 2 = d + 18 by omega] at key
      refine ⟨_, key, ?_⟩
      rintro m15 ⟨⟨M1, hM1, hR⟩, hE1, hE2, _⟩
      refine ⟨hT.1.1, ?_⟩
      rw [hM1]
      refine ⟨⟨hR.1, fun r hr => ?_, ?_⟩, fun k hk => by rw [hE1 k hk]; exact h45 k hk, fun e e1 e2 e3 e4 => by rw [hE2 e e1 e2]; exact hF e e1 e2 e3 e4⟩
      · obtain ⟨s, s1, s2, s3⟩ := tNeed (N := fun q a => m9 49 (q * na + a) ≠ 0) (ng := ng) (nr := nr) (by omega) (by rw [← hww.1]; exact MK_need (ng := ng) (nr := nr) hK) hr
        exact Int.le_trans s3 (hR.2.1 s s1 (fun q q0 q1 => by omega) (fun q q0 q1 => s2 q q0 q1) (s1 0 (by omega) (by omega)).2)
      · rcases hR.2.2 with z | ⟨s, s1, _, s3⟩
        · exact Or.inl z
        · exact Or.inr ⟨s, s1, s3⟩
