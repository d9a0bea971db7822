/-! TABLE, seventh: the search -/
theorem tTop_bd {nq na w : Int} {f : Int → Int → Int → Int} (hb : fBd nq na w f) (ha : 1 ≤ na) {q i : Int} (hq : 0 ≤ q ∧ q < nq) (hi : 0 ≤ i ∧ i < w) : -81 ≤ tTop na f q i ∧ tTop na f q i ≤ 81 :=
  zhi_bd _ (fun a a0 a1 => hb q a i hq.1 hq.2 a0 (by omega) hi.1 hi.2)
theorem tHope_bd {nq na w : Int} {f : Int → Int → Int → Int} (hb : fBd nq na w f) (ha : 1 ≤ na) (h16 : nq ≤ 16) {n i : Int} (hn : 0 ≤ n ∧ n ≤ nq) (hi : 0 ≤ i ∧ i < w) : -1296 ≤ tHope nq na f n i ∧ tHope nq na f n i ≤ 1296 := by
  have key : ∀ k : Nat, (k : Int) ≤ nq → -(81 * (k : Int)) ≤ tHopeN nq na f k i ∧ tHopeN nq na f k i ≤ 81 * k := by
    intro k
    induction k with
    | zero => intro _; simp [tHopeN]
    | succ k ih =>
      intro hk
      have h1 := ih (by omega)
      have h2 := tTop_bd hb ha (q := nq - (k + 1)) ⟨by omega, by omega⟩ hi
      rw [tHopeN]
      omega
  have := key (nq - n).toNat (by omega)
  unfold tHope
  omega
theorem zS_bd2 {nq na w : Int} {f : Int → Int → Int → Int} (h : fBd nq na w f) {r : Int → Int} {n i : Int} (hr : ∀ q, 0 ≤ q → q < n → 0 ≤ r q ∧ r q < na) (hn : 0 ≤ n ∧ n ≤ nq) (hq : nq ≤ 16) (hi : 0 ≤ i ∧ i < w) : -1296 ≤ zS_ f r n i ∧ zS_ f r n i ≤ 1296 := by
  have := zsum_bd (C := 81) (f := fun q => f q (r q) i) n.toNat (fun q q1 q2 => h q (r q) i q1 (by omega) (hr q q1 (by omega)).1 (hr q q1 (by omega)).2 hi.1 hi.2)
  unfold zS_
  omega
theorem c_Table_greatestGain {d : Nat} {kd : ZK} {m : ZM} {nq na ng nr w : Int} {f : Int → Int → Int → Int} {q i : Int} (hT : TL kd m nq na ng nr w f) (hq : 0 ≤ q ∧ q < nq) (hi : 0 ≤ i ∧ i < w) : CtI (d + 1) M_Table_greatestGain [(2, 45), (0, q), (0, i)] kd m (qE m (tTop na f q i)) := by
  have hZ := hT.2.1
  have hsz := hZ.1
  have hww := hZ.2.1
  have h1 := hZ.ix (a := 0) hq ⟨by omega, by omega⟩
  rw [Int.add_zero] at h1
  have t0 := hT.1.2.1.1
  have t1 := hT.1.2.1.2.1
  have t2 := hT.1.2.1.2.2.1
  have t3 := hT.1.2.1.2.2.2.1
  have t4 := hT.1.2.1.2.2.2.2
  have t5 := hT.1.2.2.1.1
  have t6 := hT.1.2.2.1.2.1
  have t7 := hT.1.2.2.1.2.2.1
  have t8 := hT.1.2.2.1.2.2.2.1
  have t9 := hT.1.2.2.1.2.2.2.2.1
  have t10 := hT.1.2.2.1.2.2.2.2.2
  have L0 := zfor2 (na) (fun (a : Int) (s : Int) (t : Int) => Ev (d + 1) M_Table_greatestGain 0 0 25 [(2, 45), zJ, zJ, (0, t), (0, s), (0, a)] [] kd m (zqI kd (qE m (tTop na f q i)))) (fun (a : Int) (s : Int) (t : Int) => 1 ≤ a ∧ t = (q * na + (a - 1)) * w + i ∧ s = zhi (a - 1).toNat (fun a => f q a i)) (by
    intro a s t hb hI0 KL0
    obtain ⟨ha0, ht, hs⟩ := hI0
    have h2 := hZ.ix (a := a - 1) hq ⟨by omega, by omega⟩
    have h3 := mulS (q * na + (a - 1)) w
    have et : iw (t + w) = t + w := iw_s (by omega) (by omega)
    have h4 : a < na → (q * na + a) * w + w ≤ 25600 := fun h => (hZ.ix hq ⟨by omega, h⟩).2.2.2
    have h5 : t + w = (q * na + a) * w + i := by rw [show q * na + a = q * na + (a - 1) + 1 by omega, h3]; omega
    refine T_Table_greatestGain_25 ?_
    try simp only [t0, t1, t2, t3, t4, t5, t6, t7, t8, t9, t10]
    try simp only [et]
    refine ⟨hT.1.1, ?_⟩
    refine ⟨fun c1 => ?_, fun c1 => ?_⟩
    · skip
      exact ⟨by rw [hs, show a = na by omega]; rfl, rfl⟩
    · skip
      refine ⟨hT.1.1, hT.1.1, (hT.1.i46 (by omega) (by have := h4 (by omega); omega)), ?_⟩
      rw [iw_s (x := a + 1) (by omega) (by omega)]
      rw [h5, hT.gain hq ⟨by omega, by omega⟩ hi]
      have x1 := zhi_1 (i := a - 1) (by omega) (fun a => f q a i)
      rw [show a - 1 + 1 = a by omega] at x1
      exact KL0 _ _ (by omega) ⟨by omega, by rw [show a + 1 - 1 = a by omega], by rw [show a + 1 - 1 = a by omega, x1, hs]⟩)
  refine S_Table_greatestGain ?_
  try simp only [t0, t1, t2, t3, t4, t5, t6, t7, t8, t9, t10]
  rw [iw_s (x := q * na) (by omega) (by omega), iw_s (x := q * na * w) (by omega) (by omega), iw_s (x := q * na * w + i) (by omega) (by omega)]
  refine ⟨hT.1.1, hT.1.1, hT.1.1, (hT.1.i46 (by omega) (by omega)), ?_⟩
  exact L0 1 _ _ (by omega) ⟨by omega, by rw [show (1 : Int) - 1 = 0 from rfl, Int.add_zero], by rw [show q * na * w + i = (q * na + 0) * w + i by rw [Int.add_zero], hT.gain hq ⟨by omega, by omega⟩ hi]; rfl⟩
def HP (m : ZM) (nq na w : Int) (f : Int → Int → Int → Int) (n : Int) : Prop := ∀ k i, n ≤ k → k ≤ nq → 0 ≤ i → i < w → m 48 (k * w + i) = tHope nq na f k i
theorem c_Table_fillHopes {d : Nat} {kd : ZK} {m : ZM} {nq na ng nr w : Int} {f : Int → Int → Int → Int} (hT : TL kd m nq na ng nr w f) : CtV (d + 2) M_Table_fillHopes [(2, 45)] kd m (fun m1 => HP m1 nq na w f 0 ∧ ∀ e, e ≠ 48 → m1 e = m e) := by
  have hZ := hT.2.1
  have hsz := hZ.1
  have hww := hZ.2.1
  have hlq := hZ.ln (n := nq) (by omega)
  have L0 := zfor2 (nq) (fun (n : Int) (mm : ZM) (l : Int) => Ev (d + 2) M_Table_fillHopes 0 0 42 [(2, 45), zJ, (0, l), zJ] [] kd mm (zqV kd (fun m1 => HP m1 nq na w f 0 ∧ ∀ e, e ≠ 48 → m1 e = m e))) (fun (n : Int) (mm : ZM) (l : Int) => 0 ≤ n ∧ l = nq - 1 - n ∧ HP mm nq na w f (nq - n) ∧ ∀ e, e ≠ 48 → mm e = m e) (by
    intro n mm l hb hI0 KL0
    obtain ⟨hn0, hl, hH, hF⟩ := hI0
    have hTm := hT.frame (m' := mm) (fun k _ => by rw [hF 45 (by decide)]) (hF 46 (by decide))
    have t0 := hTm.1.2.1.1
    have t1 := hTm.1.2.1.2.1
    have t2 := hTm.1.2.1.2.2.1
    have t3 := hTm.1.2.1.2.2.2.1
    have t4 := hTm.1.2.1.2.2.2.2
    have t5 := hTm.1.2.2.1.1
    have t6 := hTm.1.2.2.1.2.1
    have t7 := hTm.1.2.2.1.2.2.1
    have t8 := hTm.1.2.2.1.2.2.2.1
    have t9 := hTm.1.2.2.1.2.2.2.2.1
    have t10 := hTm.1.2.2.1.2.2.2.2.2
    have L1 := zfor1 (w) (fun (i : Int) (mm : ZM) => Ev (d + 2) M_Table_fillHopes 0 0 48 [(2, 45), zJ, (0, l), (0, i)] [] kd mm (zqV kd (fun m1 => HP m1 nq na w f 0 ∧ ∀ e, e ≠ 48 → m1 e = m e))) (fun (i : Int) (mm : ZM) => 0 ≤ i ∧ 0 ≤ l ∧ HP mm nq na w f (nq - n) ∧ (∀ e, e ≠ 48 → mm e = m e) ∧ ∀ j, 0 ≤ j → j < i → mm 48 (l * w + j) = tHope nq na f l j) (by
      intro i mm hb hI1 KL1
      obtain ⟨hi0, hl0, hH1, hF, hX⟩ := hI1
      have hl1 := hZ.ln (n := l) (by omega)
      have hl2 := hZ.ln (n := l + 1) (by omega)
      have hm1 := mulS l w
      have ea : i < w → iw (iw (iw (l + 1) * w) + i) = (l + 1) * w + i := fun h => by rw [iw_s (x := l + 1) (by omega) (by omega), iw_s (x := (l + 1) * w) (by omega) (by omega), iw_s (by omega) (by omega)]
      have eb : i < w → iw (iw (l * w) + i) = l * w + i := fun h => by rw [iw_s (x := l * w) (by omega) (by omega), iw_s (by omega) (by omega)]
      have hTm := hT.frame (m' := mm) (fun k _ => by rw [hF 45 (by decide)]) (hF 46 (by decide))
      have t0 := hTm.1.2.1.1
      have t1 := hTm.1.2.1.2.1
      have t2 := hTm.1.2.1.2.2.1
      have t3 := hTm.1.2.1.2.2.2.1
      have t4 := hTm.1.2.1.2.2.2.2
      have t5 := hTm.1.2.2.1.1
      have t6 := hTm.1.2.2.1.2.1
      have t7 := hTm.1.2.2.1.2.2.1
      have t8 := hTm.1.2.2.1.2.2.2.1
      have t9 := hTm.1.2.2.1.2.2.2.2.1
      have t10 := hTm.1.2.2.1.2.2.2.2.2
      refine T_Table_fillHopes_48 ?_
      try simp only [t0, t1, t2, t3, t4, t5, t6, t7, t8, t9, t10]
      refine ⟨hTm.1.1, ?_⟩
      refine ⟨fun c1 => ?_, fun c1 => ?_⟩
      · skip
        rw [iw_s (x := l + -1) (by omega) (by omega)]
        refine KL0 mm _ (by omega) ⟨by omega, by omega, fun k j k0 k1 j0 j1 => ?_, hF⟩
        rcases (show k = l ∨ nq - n ≤ k by omega) with q | q
        · rw [q]; exact hX j j0 (by omega)
        · exact hH1 k j q k1 j0 j1
      · skip
        refine ⟨hTm.1.1, hTm.1.1, hTm.1.1, hTm.1.1, (by rw [ea (by omega)]; exact hTm.1.i48 (by omega) (by omega)), ?_⟩
        refine ⟨hTm.1.1, _, c_Table_greatestGain hTm ⟨hl0, by omega⟩ ⟨hi0, by omega⟩, ?_⟩
        rintro _ _ ⟨rfl, rfl⟩
        try simp only [t0, t1, t2, t3, t4, t5, t6, t7, t8, t9, t10]
        refine ⟨(by rw [eb (by omega)]; exact hTm.1.i48 (by omega) (by omega)), ?_⟩
        rw [iw_s (x := i + 1) (by omega) (by omega)]
        have hb1 := tHope_bd hT.2.2.2 (by omega) (by omega) (n := l + 1) (i := i) (by omega) (by omega)
        have hb2 := tTop_bd hT.2.2.2 (by omega) (q := l) (i := i) (by omega) (by omega)
        have hh := tHope_1 (nq := nq) (na := na) (f := f) (n := l) (by omega) i
        rw [ea (by omega), eb (by omega), hH1 (l + 1) i (by omega) (by omega) hi0 (by omega), iw_s (x := tHope nq na f (l + 1) i + tTop na f l i) (by omega) (by omega), ← hh]
        refine KL1 _ (by omega) ⟨by omega, hl0, fun k j k0 k1 j0 j1 => ?_, fun e he => by rw [zup_off he]; exact hF e he, fun j j0 j1 => ?_⟩
        · have := mulL (y := l) (z := k) (w := w) (by omega) (by omega)
          rw [zup_at, gup_off (by omega)]; exact hH1 k j k0 k1 j0 j1
        · rw [zup_at]
          rcases (show j = i ∨ j < i by omega) with q | q
          · rw [q, gup_at]
          · rw [gup_off (by omega)]; exact hX j j0 q)
    refine T_Table_fillHopes_42 ?_
    refine ⟨fun c1 => ?_, fun c1 => ?_⟩
    · skip
      exact ⟨fun k i k0 k1 i0 i1 => hH k i (by omega) k1 i0 i1, hF⟩
    · skip
      exact L1 0 mm (by omega) ⟨by omega, by omega, hH, hF, fun j j0 j1 => by omega⟩)
  have L9 := zfor1 (w) (fun (i : Int) (mm : ZM) => Ev (d + 2) M_Table_fillHopes 0 0 12 [(2, 45), (0, (nq * w)), (0, i), zJ] [] kd mm (zqV kd (fun m1 => HP m1 nq na w f 0 ∧ ∀ e, e ≠ 48 → m1 e = m e))) (fun (i : Int) (mm : ZM) => 0 ≤ i ∧ (∀ e, e ≠ 48 → mm e = m e) ∧ ∀ j, 0 ≤ j → j < i → mm 48 (nq * w + j) = 0) (by
    intro i mm hb hI KL9
    obtain ⟨hi0, hF, hX⟩ := hI
    have eb : i < w → iw (nq * w + i) = nq * w + i := fun h => iw_s (by omega) (by omega)
    have hTm := hT.frame (m' := mm) (fun k _ => by rw [hF 45 (by decide)]) (hF 46 (by decide))
    have t0 := hTm.1.2.1.1
    have t1 := hTm.1.2.1.2.1
    have t2 := hTm.1.2.1.2.2.1
    have t3 := hTm.1.2.1.2.2.2.1
    have t4 := hTm.1.2.1.2.2.2.2
    have t5 := hTm.1.2.2.1.1
    have t6 := hTm.1.2.2.1.2.1
    have t7 := hTm.1.2.2.1.2.2.1
    have t8 := hTm.1.2.2.1.2.2.2.1
    have t9 := hTm.1.2.2.1.2.2.2.2.1
    have t10 := hTm.1.2.2.1.2.2.2.2.2
    refine T_Table_fillHopes_12 ?_
    try simp only [t0, t1, t2, t3, t4, t5, t6, t7, t8, t9, t10]
    refine ⟨hTm.1.1, ?_⟩
    refine ⟨fun c1 => ?_, fun c1 => ?_⟩
    · skip
      refine ⟨hTm.1.1, ?_⟩
      rw [iw_s (x := nq - 1) (by omega) (by omega)]
      refine L0 0 mm _ (by omega) ⟨by omega, by omega, fun k j k0 k1 j0 j1 => ?_, hF⟩
      rw [show k = nq by omega, tHope_0]
      exact hX j j0 (by omega)
    · skip
      refine ⟨hTm.1.1, (by rw [eb (by omega)]; exact hTm.1.i48 (by omega) (by omega)), ?_⟩
      rw [iw_s (x := i + 1) (by omega) (by omega)]
      rw [eb (by omega)]
      refine KL9 _ (by omega) ⟨by omega, fun e he => by rw [zup_off he]; exact hF e he, fun j j0 j1 => ?_⟩
      rw [zup_at]
      rcases (show j = i ∨ j < i by omega) with q | q
      · rw [q, gup_at]
      · rw [gup_off (by omega)]; exact hX j j0 q)
  have t0 := hT.1.2.1.1
  have t1 := hT.1.2.1.2.1
  have t2 := hT.1.2.1.2.2.1
  have t3 := hT.1.2.1.2.2.2.1
  have t4 := hT.1.2.1.2.2.2.2
  have t5 := hT.1.2.2.1.1
  have t6 := hT.1.2.2.1.2.1
  have t7 := hT.1.2.2.1.2.2.1
  have t8 := hT.1.2.2.1.2.2.2.1
  have t9 := hT.1.2.2.1.2.2.2.2.1
  have t10 := hT.1.2.2.1.2.2.2.2.2
  refine S_Table_fillHopes ?_
  try simp only [t0, t1, t2, t3, t4, t5, t6, t7, t8, t9, t10]
  refine ⟨hT.1.1, hT.1.1, ?_⟩
  rw [iw_s (by omega) (by omega)]
  exact L9 0 m (by omega) ⟨by omega, fun _ _ => rfl, fun j j0 j1 => by omega⟩
theorem c_Table_hopeAt {d : Nat} {kd : ZK} {m : ZM} {nq na ng nr w : Int} {f : Int → Int → Int → Int} {r : Int → Int} {n : Int} (hT : TL kd m nq na ng nr w f) (hn : 0 ≤ n ∧ n ≤ nq) (hr : ∀ q, 0 ≤ q → q < n → 0 ≤ r q ∧ r q < na) (hS : ∀ i, 0 ≤ i → i < w → m 47 (n * w + i) = zS_ f r n i) (hH : HP m nq na w f 0) : CtI (d + 1) M_Table_hopeAt [(2, 45), (0, n)] kd m (qE m (tHopeAt nq na ng nr f r n)) := by
  have hZ := hT.2.1
  have hsz := hZ.1
  have hww := hZ.2.1
  have hln := hZ.ln hn
  have hv : ∀ i, 0 ≤ i → i < w → m 47 (n * w + i) = zS_ f r n i ∧ m 48 (n * w + i) = tHope nq na f n i ∧ (-2592 ≤ zS_ f r n i + tHope nq na f n i ∧ zS_ f r n i + tHope nq na f n i ≤ 2592) := fun i i0 i1 => by
    have b1 := zS_bd2 hT.2.2.2 hr hn (by omega) ⟨i0, i1⟩
    have b2 := tHope_bd hT.2.2.2 (by omega) (by omega) hn ⟨i0, i1⟩
    exact ⟨hS i i0 i1, hH n i hn.1 hn.2 i0 i1, by omega, by omega⟩
  have hgb : ∀ g, 0 ≤ g → g < ng → -2592 ≤ zhi (nr - 1).toNat (fun j => zS_ f r n (g * nr + j) + tHope nq na f n (g * nr + j)) ∧ zhi (nr - 1).toNat (fun j => zS_ f r n (g * nr + j) + tHope nq na f n (g * nr + j)) ≤ 2592 := fun g g0 g1 => zhi_bd _ (fun j j0 j1 => (hv _ (by have := hZ.gr ⟨g0, g1⟩; omega) (by have := hZ.gr ⟨g0, g1⟩; omega)).2.2)
  have t0 := hT.1.2.1.1
  have t1 := hT.1.2.1.2.1
  have t2 := hT.1.2.1.2.2.1
  have t3 := hT.1.2.1.2.2.2.1
  have t4 := hT.1.2.1.2.2.2.2
  have t5 := hT.1.2.2.1.1
  have t6 := hT.1.2.2.1.2.1
  have t7 := hT.1.2.2.1.2.2.1
  have t8 := hT.1.2.2.1.2.2.2.1
  have t9 := hT.1.2.2.1.2.2.2.2.1
  have t10 := hT.1.2.2.1.2.2.2.2.2
  have L0 := zfor2 (ng) (fun (g : Int) (t : Int) (a : Int) => Ev (d + 1) M_Table_hopeAt 0 0 12 [(2, 45), zJ, (0, t), (0, a), (0, g), zJ, zJ] [] kd m (zqI kd (qE m (tHopeAt nq na ng nr f r n)))) (fun (g : Int) (t : Int) (a : Int) => 0 ≤ g ∧ a = n * w + g * nr ∧ t = zsum g.toNat (fun g => zhi (nr - 1).toNat (fun j => zS_ f r n (g * nr + j) + tHope nq na f n (g * nr + j)))) (by
    intro g t a hb hI0 KL0
    obtain ⟨hg0, ha, ht⟩ := hI0
    have hsb := zsum_bd (C := 2592) (f := (fun g => zhi (nr - 1).toNat (fun j => zS_ f r n (g * nr + j) + tHope nq na f n (g * nr + j)))) g.toNat (fun i i0 i1 => hgb i i0 (by omega))
    have hgr : g < ng → 0 ≤ g * nr ∧ g * nr + nr ≤ w := fun h => hZ.gr ⟨hg0, h⟩
    have L1 := zfor2 (nr) (fun (j : Int) (a : Int) (s : Int) => Ev (d + 1) M_Table_hopeAt 0 0 42 [(2, 45), zJ, (0, t), (0, a), (0, g), (0, s), (0, j)] [] kd m (zqI kd (qE m (tHopeAt nq na ng nr f r n)))) (fun (j : Int) (a : Int) (s : Int) => 1 ≤ j ∧ g < ng ∧ a = n * w + (g * nr + j) ∧ s = zhi (j - 1).toNat (fun j => zS_ f r n (g * nr + j) + tHope nq na f n (g * nr + j))) (by
      intro j a s hb hI1 KL1
      obtain ⟨hj0, hgl, ha1, hs⟩ := hI1
      have hg2 := hgr hgl
      refine T_Table_hopeAt_42 ?_
      try simp only [t0, t1, t2, t3, t4, t5, t6, t7, t8, t9, t10]
      refine ⟨hT.1.1, ?_⟩
      refine ⟨fun c1 => ?_, fun c1 => ?_⟩
      · skip
        have hgb2 := hgb g hg0 hgl
        rw [show j = nr by omega] at hs
        rw [← hs] at hgb2
        rw [iw_s (x := g + 1) (by omega) (by omega), iw_s (x := t + s) (by omega) (by omega)]
        exact KL0 _ _ (by omega) ⟨by omega, by rw [mulS]; omega, by rw [zsum_1 hg0, ht, hs]⟩
      · skip
        refine ⟨hT.1.1, (hT.1.i47 (by omega) (by omega)), hT.1.1, (hT.1.i48 (by omega) (by omega)), ?_⟩
        rw [iw_s (x := j + 1) (by omega) (by omega)]
        have hv0 := hv (g * nr + j) (by omega) (by omega)
        rw [iw_s (x := a + 1) (by omega) (by omega), ha1, hv0.1, hv0.2.1, iw_s (x := zS_ f r n (g * nr + j) + tHope nq na f n (g * nr + j)) (by omega) (by omega)]
        have x1 := zhi_1 (i := j - 1) (by omega) (fun j => zS_ f r n (g * nr + j) + tHope nq na f n (g * nr + j))
        rw [show j - 1 + 1 = j by omega] at x1
        exact KL1 _ _ (by omega) ⟨by omega, hgl, by omega, by rw [show j + 1 - 1 = j by omega, x1, hs]⟩)
    refine T_Table_hopeAt_12 ?_
    try simp only [t0, t1, t2, t3, t4, t5, t6, t7, t8, t9, t10]
    refine ⟨hT.1.1, ?_⟩
    refine ⟨fun c1 => ?_, fun c1 => ?_⟩
    · skip
      exact ⟨by rw [ht, show g = ng by omega]; rfl, rfl⟩
    · skip
      refine ⟨hT.1.1, (hT.1.i47 (by have := hgr (by omega); omega) (by have := hgr (by omega); omega)), hT.1.1, (hT.1.i48 (by have := hgr (by omega); omega) (by have := hgr (by omega); omega)), ?_⟩
      have hg2 := hgr (by omega)
      have hv0 := hv (g * nr + 0) (by omega) (by omega)
      rw [iw_s (x := a + 1) (by omega) (by omega), show a = n * w + (g * nr + 0) by omega, hv0.1, hv0.2.1, iw_s (x := zS_ f r n (g * nr + 0) + tHope nq na f n (g * nr + 0)) (by omega) (by omega)]
      exact L1 1 _ _ (by omega) ⟨by omega, by omega, by omega, rfl⟩)
  refine S_Table_hopeAt ?_
  try simp only [t0, t1, t2, t3, t4, t5, t6, t7, t8, t9, t10]
  refine ⟨hT.1.1, ?_⟩
  rw [iw_s (by omega) (by omega)]
  exact L0 0 0 _ (by omega) ⟨by omega, by rw [Int.zero_mul]; omega, rfl⟩
theorem c_Table_covers {d : Nat} {kd : ZK} {m : ZM} {nq na ng nr w : Int} {a b : Int} (hT : TS kd m nq na ng nr w) (hw : 0 ≤ w ∧ w ≤ 400) (ha : 0 ≤ a ∧ a + w ≤ 25600) (hb2 : 0 ≤ b ∧ b + w ≤ 25600) : CtI (d + 1) M_Table_covers [(2, 45), (0, a), (0, b)] kd m (qE m (zb (∀ i, 0 ≤ i → i < w → m 46 (b + i) ≤ m 46 (a + i)))) := by
  have t0 := hT.2.1.1
  have t1 := hT.2.1.2.1
  have t2 := hT.2.1.2.2.1
  have t3 := hT.2.1.2.2.2.1
  have t4 := hT.2.1.2.2.2.2
  have t5 := hT.2.2.1.1
  have t6 := hT.2.2.1.2.1
  have t7 := hT.2.2.1.2.2.1
  have t8 := hT.2.2.1.2.2.2.1
  have t9 := hT.2.2.1.2.2.2.2.1
  have t10 := hT.2.2.1.2.2.2.2.2
  have L0 := zfor0 (w) (fun (i : Int)  => Ev (d + 1) M_Table_covers 0 0 2 [(2, 45), (0, a), (0, b), (0, i)] [] kd m (zqI kd (qE m (zb (∀ i, 0 ≤ i → i < w → m 46 (b + i) ≤ m 46 (a + i)))))) (fun (i : Int)  => 0 ≤ i ∧ ∀ j, 0 ≤ j → j < i → m 46 (b + j) ≤ m 46 (a + j)) (by
    intro i  hb hI0 KL0
    obtain ⟨hi0, hX⟩ := hI0
    have ea : i < w → iw (a + i) = a + i := fun h => iw_s (by omega) (by omega)
    have eb : i < w → iw (b + i) = b + i := fun h => iw_s (by omega) (by omega)
    refine T_Table_covers_2 ?_
    try simp only [t0, t1, t2, t3, t4, t5, t6, t7, t8, t9, t10]
    refine ⟨hT.1, ?_⟩
    refine ⟨fun c1 => ?_, fun c1 => ?_⟩
    · skip
      exact ⟨(zb_t (fun j j0 j1 => hX j j0 (by omega))).symm, rfl⟩
    · skip
      refine ⟨hT.1, (by rw [ea (by omega)]; exact hT.i46 (by omega) (by omega)), hT.1, (by rw [eb (by omega)]; exact hT.i46 (by omega) (by omega)), ?_⟩
      refine ⟨fun c2 => ?_, fun c2 => ?_⟩
      · skip
        rw [iw_s (x := i + 1) (by omega) (by omega)]
        rw [ea (by omega), eb (by omega)] at c2
        refine KL0 (by omega) ⟨by omega, fun j j0 j1 => ?_⟩
        rcases (show j = i ∨ j < i by omega) with q | q
        · rw [q]; exact c2
        · exact hX j j0 q
      · skip
        rw [ea (by omega), eb (by omega)] at c2
        exact ⟨(zb_f (fun h => c2 (h i hi0 (by omega)))).symm, rfl⟩)
  refine S_Table_covers ?_
  exact L0 0 (by omega) ⟨by omega, fun j j0 j1 => by omega⟩
def isCv (m : ZM) (na w : Int) (f : Int → Int → Int → Int) (q a : Int) : Prop := ∃ b, (0 ≤ b ∧ b < na) ∧ b ≠ a ∧ m 49 (q * na + b) = 0 ∧ ∀ i, 0 ≤ i → i < w → f q a i ≤ f q b i
theorem c_Table_isCovered {d : Nat} {kd : ZK} {m : ZM} {nq na ng nr w : Int} {f : Int → Int → Int → Int} {q a : Int} (hT : TL kd m nq na ng nr w f) (hq : 0 ≤ q ∧ q < nq) (ha : 0 ≤ a ∧ a < na) : CtI (d + 2) M_Table_isCovered [(2, 45), (0, q * na + a), (0, q * na)] kd m (qE m (zb (isCv m na w f q a))) := by
  have hZ := hT.2.1
  have hsz := hZ.1
  have hww := hZ.2.1
  have hia := hZ.ix hq ha
  have en : iw (q * na + na) = q * na + na := iw_s (by omega) (by omega)
  have ea : iw ((q * na + a) * w) = (q * na + a) * w := iw_s (by omega) (by omega)
  have hcv : ∀ b, 0 ≤ b → b < na → ((∀ i, 0 ≤ i → i < w → m 46 ((q * na + a) * w + i) ≤ m 46 ((q * na + b) * w + i)) ↔ ∀ i, 0 ≤ i → i < w → f q a i ≤ f q b i) := fun b b0 b1 =>
    ⟨fun h i i0 i1 => by have := h i i0 i1; rw [hT.gain hq ha ⟨i0, i1⟩, hT.gain hq ⟨b0, b1⟩ ⟨i0, i1⟩] at this; exact this, fun h i i0 i1 => by rw [hT.gain hq ha ⟨i0, i1⟩, hT.gain hq ⟨b0, b1⟩ ⟨i0, i1⟩]; exact h i i0 i1⟩
  have t0 := hT.1.2.1.1
  have t1 := hT.1.2.1.2.1
  have t2 := hT.1.2.1.2.2.1
  have t3 := hT.1.2.1.2.2.2.1
  have t4 := hT.1.2.1.2.2.2.2
  have t5 := hT.1.2.2.1.1
  have t6 := hT.1.2.2.1.2.1
  have t7 := hT.1.2.2.1.2.2.1
  have t8 := hT.1.2.2.1.2.2.2.1
  have t9 := hT.1.2.2.1.2.2.2.2.1
  have t10 := hT.1.2.2.1.2.2.2.2.2
  have L0 := zfor1 (na) (fun (b : Int) (x : Int) => Ev (d + 2) M_Table_isCovered 0 0 2 [(2, 45), (0, (q * na + a)), (0, (q * na)), (0, x)] [] kd m (zqI kd (qE m (zb (isCv m na w f q a))))) (fun (b : Int) (x : Int) => 0 ≤ b ∧ x = q * na + b ∧ ∀ c, 0 ≤ c → c < b → ¬ (c ≠ a ∧ m 49 (q * na + c) = 0 ∧ ∀ i, 0 ≤ i → i < w → f q a i ≤ f q c i)) (by
    intro b x hb hI0 KL0
    obtain ⟨hb0, hx, hX⟩ := hI0
    have hib : b < na → (q * na + b < 64) ∧ 0 ≤ (q * na + b) * w ∧ (q * na + b) * w + w ≤ 25600 := fun h => by have := hZ.ix hq ⟨hb0, h⟩; omega
    have eb : b < na → iw (x * w) = (q * na + b) * w := fun h => by rw [hx]; have := hib h; exact iw_s (by omega) (by omega)
    have nxt : ¬ (b ≠ a ∧ m 49 (q * na + b) = 0 ∧ ∀ i, 0 ≤ i → i < w → f q a i ≤ f q b i) → ∀ c, 0 ≤ c → c < b + 1 → ¬ (c ≠ a ∧ m 49 (q * na + c) = 0 ∧ ∀ i, 0 ≤ i → i < w → f q a i ≤ f q c i) := fun h c c0 c1 => by
      rcases (show c = b ∨ c < b by omega) with z | z
      · rw [z]; exact h
      · exact hX c c0 z
    refine T_Table_isCovered_2 ?_
    try simp only [t0, t1, t2, t3, t4, t5, t6, t7, t8, t9, t10]
    simp only [en, ea]
    refine ⟨hT.1.1, ?_⟩
    refine ⟨fun c1 => ?_, fun c1 => ?_⟩
    · try simp only [zb_eq0, zb_ne0] at c1
      exact ⟨(zb_f (fun h => by obtain ⟨c, h1, h2, h3, h4⟩ := h; exact hX c h1.1 (by omega) ⟨h2, h3, h4⟩)).symm, rfl⟩
    · try simp only [zb_eq0, zb_ne0] at c1
      refine ⟨fun c2 => ?_, fun c2 => ?_⟩
      · try simp only [zb_eq0, zb_ne0] at c2
        rw [iw_s (x := x + 1) (by omega) (by have := hib (by omega); omega)]
        exact KL0 _ (by omega) ⟨by omega, by omega, nxt (fun h => by rw [← hx] at h; first | omega | exact absurd (hcb.2 h.2.2) (by assumption))⟩
      · try simp only [zb_eq0, zb_ne0] at c2
        refine ⟨hT.1.1, (hT.1.i49 (by omega) (by have := hib (by omega); omega)), ?_⟩
        refine ⟨fun c3 => ?_, fun c3 => ?_⟩
        · try simp only [zb_eq0, zb_ne0] at c3
          rw [iw_s (x := x + 1) (by omega) (by have := hib (by omega); omega)]
          exact KL0 _ (by omega) ⟨by omega, by omega, nxt (fun h => by rw [← hx] at h; first | omega | exact absurd (hcb.2 h.2.2) (by assumption))⟩
        · try simp only [zb_eq0, zb_ne0] at c3
          refine ⟨hT.1.1, hT.1.1, ?_⟩
          refine ⟨hT.1.1, _, (by rw [eb (by omega)]; exact c_Table_covers hT.1 ⟨by omega, by omega⟩ ⟨by have := hib (by omega); omega, by have := hib (by omega); omega⟩ ⟨by omega, by omega⟩), ?_⟩
          rintro _ _ ⟨rfl, rfl⟩
          have hcb := hcv b hb0 (by omega)
          refine ⟨fun c4 => ?_, fun c4 => ?_⟩
          · try simp only [zb_eq0, zb_ne0] at c4
            rw [iw_s (x := x + 1) (by omega) (by have := hib (by omega); omega)]
            exact KL0 _ (by omega) ⟨by omega, by omega, nxt (fun h => by rw [← hx] at h; first | omega | exact absurd (hcb.2 h.2.2) (by assumption))⟩
          · try simp only [zb_eq0, zb_ne0] at c4
            exact ⟨(zb_t ⟨b, ⟨hb0, by omega⟩, by omega, by rw [← hx]; omega, hcb.1 (by first | assumption | exact Classical.not_not.1 (by assumption))⟩).symm, rfl⟩)
  refine S_Table_isCovered ?_
  exact L0 0 _ (by omega) ⟨by omega, by omega, fun c c0 c1 => by omega⟩
