/-! TABLE, tenth: a game with itself -/
noncomputable def gZ_ (G : GR) (q o : Int) : Int := gZ G (q / G 0) (o / G 1) * gZ G (q % G 0) (o % G 1)
noncomputable def fI (G : GR) (q a i : Int) : Int := @ite Int ((a = 0 ∨ q = 0) ↔ i % 2 = 0) (Classical.propDecidable _) (gZ_ G q (i / 2)) (-(gZ_ G q (i / 2)))
theorem fI_t {G : GR} {q a i : Int} (h : (a = 0 ∨ q = 0) ↔ i % 2 = 0) : fI G q a i = gZ_ G q (i / 2) := if_pos h
theorem fI_f {G : GR} {q a i : Int} (h : ¬ ((a = 0 ∨ q = 0) ↔ i % 2 = 0)) : fI G q a i = -(gZ_ G q (i / 2)) := if_neg h
theorem gZ__bd {G : GR} (ho : GOK G) (q o : Int) : -81 ≤ gZ_ G q o ∧ gZ_ G q o ≤ 81 := zmul_bd (A := 9) (B := 9) (gZ_in ho _ _) (gZ_in ho _ _)
theorem fI_bd {G : GR} (ho : GOK G) (q a i : Int) : -81 ≤ fI G q a i ∧ fI G q a i ≤ 81 := by
  have := gZ__bd ho q (i / 2)
  rcases Classical.em ((a = 0 ∨ q = 0) ↔ i % 2 = 0) with h | h
  · rw [fI_t h]; exact this
  · rw [fI_f h]; omega
def LI (m mm : ZM) (b w k : Int) (F0 F1 : Int → Int) : Prop := (∀ e, e ≠ 46 → mm e = m e) ∧ (∀ x, x < b → mm 46 x = m 46 x) ∧ ∀ i, 0 ≤ i → i < k → mm 46 (b + i) = F0 i ∧ mm 46 (b + w + i) = F1 i
theorem LI_1 {m mm : ZM} {b w o c0 c1 s0 s1 : Int} {F0 F1 : Int → Int} (h : LI m mm b w (2 * o) F0 F1) (ho : 0 ≤ o) (hw : 2 * o + 2 ≤ w) (e0 : c0 = F0 (2 * o)) (e1 : c1 = F0 (2 * o + 1)) (e2 : s0 = F1 (2 * o)) (e3 : s1 = F1 (2 * o + 1)) : LI m (zup (zup (zup (zup mm 46 (b + 2 * o) c0) 46 (b + 2 * o + 1) c1) 46 (b + w + 2 * o) s0) 46 (b + w + 2 * o + 1) s1) b w (2 * (o + 1)) F0 F1 := by
  refine ⟨fun e he => by rw [zup_off he, zup_off he, zup_off he, zup_off he]; exact h.1 e he, fun x hx => by simp only [zup_at]; rw [gup_off (by omega), gup_off (by omega), gup_off (by omega), gup_off (by omega)]; exact h.2.1 x hx, fun i i0 i1 => ?_⟩
  simp only [zup_at]
  rcases (show i = 2 * o ∨ i = 2 * o + 1 ∨ i < 2 * o by omega) with q | q | q
  · subst q
    rw [gup_off (by omega), gup_off (by omega), gup_off (by omega), gup_at, gup_off (by omega), gup_at]
    exact ⟨e0, e2⟩
  · subst q
    rw [gup_off (by omega), gup_off (by omega), show b + (2 * o + 1) = b + 2 * o + 1 by omega, gup_at, show b + w + (2 * o + 1) = b + w + 2 * o + 1 by omega, gup_at]
    exact ⟨e1, e3⟩
  · rw [gup_off (by omega), gup_off (by omega), gup_off (by omega), gup_off (by omega), gup_off (by omega), gup_off (by omega), gup_off (by omega), gup_off (by omega)]
    exact h.2.2 i i0 q
theorem c_Table_loadWithItselfLines {d : Nat} {kd : ZK} {m : ZM} {g : Int} {G : GR} {nq ng w x z b : Int} (hT : TS kd m nq 2 ng 2 w) (hZ : TZ nq 2 ng 2 w) (hs : nq = G 0 * G 0 ∧ ng = G 1 * G 1) (hg : CG kd m g G) (ho : GOK G) (ht : 0 < G 0) (hz : 55 < g) (hx : 0 ≤ x ∧ x < G 0) (hy : 0 ≤ z ∧ z < G 0) (hb : b = (x * G 0 + z) * 2 * w) : CtV (d + 5) M_Table_loadWithItselfLines [(2, 45), (2, g), (0, x), (0, z), (0, b)] kd m (fun m1 => (∀ e, e ≠ 46 → m1 e = m e) ∧ (∀ i, i < b → m1 46 i = m 46 i) ∧ ∀ i, 0 ≤ i → i < w → m1 46 (b + i) = fI G (x * G 0 + z) 0 i ∧ m1 46 (b + w + i) = fI G (x * G 0 + z) 1 i) := by
  have hww := hZ.2.1
  have h0 := ho.1
  have htt := ho.2.1 ht
  have hxg := mulL (w := G 0) hx.2 (by omega)
  have hxn := mulN (y := x) (w := G 0) (by omega) (by omega)
  obtain ⟨q, hq⟩ : ∃ q, q = x * G 0 + z := ⟨_, rfl⟩
  rw [← hq] at hb ⊢
  have hix := hZ.ix (q := q) (a := 1) ⟨by omega, by omega⟩ ⟨by omega, by omega⟩
  have hls := mulS (q * 2) w
  have hlq := mulL (y := 0) (z := q * 2) (w := w)
  have hbq : 0 < w → (b = 0 ↔ q = 0) := fun hw => by
    rcases (show q = 0 ∨ 0 < q by omega) with e | e
    · subst e
      rw [Int.zero_mul, Int.zero_mul] at hb
      omega
    · have := hlq (by omega) (by omega)
      omega
  have L0 := zfor2 (G 1) (fun (y : Int) (mm : ZM) (t : Int) => Ev (d + 5) M_Table_loadWithItselfLines 0 0 7 [(2, 45), (2, g), (0, x), (0, z), (0, b), (0, t), (0, y), zJ, zJ, zJ] [] kd mm (zqV kd (fun m1 => (∀ e, e ≠ 46 → m1 e = m e) ∧ (∀ i, i < b → m1 46 i = m 46 i) ∧ ∀ i, 0 ≤ i → i < w → m1 46 (b + i) = fI G q 0 i ∧ m1 46 (b + w + i) = fI G q 1 i))) (fun (y : Int) (mm : ZM) (t : Int) => 0 ≤ y ∧ t = b + 2 * (y * G 1) ∧ LI m mm b w (2 * (y * G 1)) (fI G q 0) (fI G q 1)) (by
    intro y mm t hb hI0 KL0
    obtain ⟨hy0, htt0, hL0⟩ := hI0
    have hTm := hT.frame (m' := mm) (hL0.1 45 (by decide))
    have hgm : CG kd mm g G := hg.frame (fun a a1 a2 => hL0.1 a (by omega))
    have t0 := hTm.2.1.1
    have t1 := hTm.2.1.2.1
    have t2 := hTm.2.1.2.2.1
    have t3 := hTm.2.1.2.2.2.1
    have t4 := hTm.2.1.2.2.2.2
    have t5 := hTm.2.2.1.1
    have t6 := hTm.2.2.1.2.1
    have t7 := hTm.2.2.1.2.2.1
    have t8 := hTm.2.2.1.2.2.2.1
    have t9 := hTm.2.2.1.2.2.2.2.1
    have t10 := hTm.2.2.1.2.2.2.2.2
    have k0 := hgm.2.1.1
    have k1 := hgm.2.1.2.1
    have k2 := hgm.2.1.2.2.1
    have k3 := hgm.2.1.2.2.2
    have L1 := zfor2 (G 1) (fun (v : Int) (mm : ZM) (t : Int) => Ev (d + 5) M_Table_loadWithItselfLines 0 0 19 [(2, 45), (2, g), (0, x), (0, z), (0, b), (0, t), (0, y), (0, v), zJ, zJ] [] kd mm (zqV kd (fun m1 => (∀ e, e ≠ 46 → m1 e = m e) ∧ (∀ i, i < b → m1 46 i = m 46 i) ∧ ∀ i, 0 ≤ i → i < w → m1 46 (b + i) = fI G q 0 i ∧ m1 46 (b + w + i) = fI G q 1 i))) (fun (v : Int) (mm : ZM) (t : Int) => (0 ≤ v ∧ y < G 1) ∧ t = b + 2 * (y * G 1 + v) ∧ LI m mm b w (2 * (y * G 1 + v)) (fI G q 0) (fI G q 1)) (by
      intro v mm t hb hI1 KL1
      obtain ⟨⟨hv0, hyl⟩, htt1, hL1⟩ := hI1
      have hyg := mulL (w := G 1) hyl (by omega)
      have hyn := mulN (y := y) (w := G 1) (by omega) (by omega)
      obtain ⟨o, hoe⟩ : ∃ o, o = y * G 1 + v := ⟨_, rfl⟩
      rw [← hoe] at htt1 hL1
      have ho0 : 0 ≤ o := by omega
      have hgz := gZ__bd ho q o
      have hgzd : v < G 1 → gZ G x y * gZ G z v = gZ_ G q o := fun h => by
        unfold gZ_
        rw [hq, hoe, lin_d hy.1 hy.2, lin_m hy.1 hy.2, lin_d hv0 h, lin_m hv0 h]
      have hf0 : fI G q 0 (2 * o) = gZ_ G q o ∧ fI G q 0 (2 * o + 1) = -(gZ_ G q o) ∧ fI G q 1 (2 * o) = (if q = 0 then gZ_ G q o else -(gZ_ G q o)) ∧ fI G q 1 (2 * o + 1) = -(if q = 0 then gZ_ G q o else -(gZ_ G q o)) := by
        have a1 : 2 * o / 2 = o := by omega
        have a2 : (2 * o + 1) / 2 = o := by omega
        refine ⟨by rw [fI_t (by omega), a1], by rw [fI_f (by omega), a2], ?_, ?_⟩
        · by_cases hq0 : q = 0
          · rw [if_pos hq0, fI_t (by omega), a1]
          · rw [if_neg hq0, fI_f (by omega), a1]
        · by_cases hq0 : q = 0
          · rw [if_pos hq0, fI_f (by omega), a2]
          · rw [if_neg hq0, fI_t (by omega), a2, Int.neg_neg]
      have hTm := hT.frame (m' := mm) (hL1.1 45 (by decide))
      have hgm : CG kd mm g G := hg.frame (fun a a1 a2 => hL1.1 a (by omega))
      have t0 := hTm.2.1.1
      have t1 := hTm.2.1.2.1
      have t2 := hTm.2.1.2.2.1
      have t3 := hTm.2.1.2.2.2.1
      have t4 := hTm.2.1.2.2.2.2
      have t5 := hTm.2.2.1.1
      have t6 := hTm.2.2.1.2.1
      have t7 := hTm.2.2.1.2.2.1
      have t8 := hTm.2.2.1.2.2.2.1
      have t9 := hTm.2.2.1.2.2.2.2.1
      have t10 := hTm.2.2.1.2.2.2.2.2
      have k0 := hgm.2.1.1
      have k1 := hgm.2.1.2.1
      have k2 := hgm.2.1.2.2.1
      have k3 := hgm.2.1.2.2.2
      subst htt1
      have key : v < G 1 → ∀ sv : Int, sv = (if q = 0 then gZ_ G q o else -(gZ_ G q o)) → Ev (d + 5) M_Table_loadWithItselfLines 0 0 58 [(2, 45), (2, g), (0, x), (0, z), (0, b), (0, (b + 2 * o)), (0, y), (0, v), (0, (gZ_ G q o)), zJ] [(0, sv)] kd mm (zqV kd (fun m1 => (∀ e, e ≠ 46 → m1 e = m e) ∧ (∀ i, i < b → m1 46 i = m 46 i) ∧ ∀ i, 0 ≤ i → i < w → m1 46 (b + i) = fI G q 0 i ∧ m1 46 (b + w + i) = fI G q 1 i)) := by
        intro hvl sv hsv
        have hsb : -81 ≤ sv ∧ sv ≤ 81 := by
          rw [hsv]
          split <;> omega
        refine T_Table_loadWithItselfLines_58 ?_
        try simp only [zup_ne (show (45 : Int) ≠ 46 by decide), t0, t1, t2, t3, t4, t5]
        rw [iw_s (x := b + 2 * o + 1) (by omega) (by omega), iw_s (x := b + 2 * o + w) (by omega) (by omega), show b + 2 * o + w = b + w + 2 * o by omega, iw_s (x := b + w + 2 * o + 1) (by omega) (by omega)]
        refine ⟨hTm.1, (hTm.i46 (by omega) (by omega)), hTm.1, (hTm.i46 (by omega) (by omega)), hTm.1, hTm.1, (hTm.i46 (by omega) (by omega)), hTm.1, hTm.1, (hTm.i46 (by omega) (by omega)), ?_⟩
        rw [iw_s (x := b + 2 * o + 2) (by omega) (by omega), iw_s (x := v + 1) (by omega) (by omega), iw_s (x := -(gZ_ G q o)) (by omega) (by omega), iw_s (x := -sv) (by omega) (by omega)]
        have hln := LI_1 (c0 := gZ_ G q o) (c1 := -(gZ_ G q o)) (s0 := sv) (s1 := -sv) hL1 ho0 (by omega) hf0.1.symm hf0.2.1.symm (by rw [hsv, hf0.2.2.1]) (by rw [hsv, hf0.2.2.2])
        rw [show o + 1 = y * G 1 + (v + 1) by omega] at hln
        exact KL1 _ _ (by omega) ⟨⟨by omega, hyl⟩, by omega, hln⟩
      refine T_Table_loadWithItselfLines_19 ?_
      try simp only [t0, t1, t2, t3, t4, t5, t6, t7, t8, t9, t10]
      try simp only [k0, k1, k2, k3]
      refine ⟨hgm.1.1, ?_⟩
      refine ⟨fun c1 => ?_, fun c1 => ?_⟩
      · skip
        rw [iw_s (x := y + 1) (by omega) (by omega)]
        rw [hoe, show v = G 1 by omega] at hL1
        exact KL0 mm _ (by omega) ⟨by omega, by rw [mulS]; omega, by rw [mulS]; exact hL1⟩
      · skip
        refine ⟨hgm.1.1, _, c_Game_signedWeight hgm ho (by omega) (by omega), ?_⟩
        rintro _ _ ⟨rfl, rfl⟩
        try simp only [t0, t1, t2, t3, t4, t5, t6, t7, t8, t9, t10]
        try simp only [k0, k1, k2, k3]
        try simp only [k0, k1, k2, k3]
        try rw [hgzd (by omega), iw_s (x := gZ_ G q o) (by omega) (by omega), iw_s (x := -(gZ_ G q o)) (by omega) (by omega)]
        refine ⟨hgm.1.1, _, c_Game_signedWeight hgm ho (by omega) (by omega), ?_⟩
        rintro _ _ ⟨rfl, rfl⟩
        try simp only [t0, t1, t2, t3, t4, t5, t6, t7, t8, t9, t10]
        try simp only [k0, k1, k2, k3]
        try simp only [k0, k1, k2, k3]
        try rw [hgzd (by omega), iw_s (x := gZ_ G q o) (by omega) (by omega), iw_s (x := -(gZ_ G q o)) (by omega) (by omega)]
        refine ⟨fun c2 => ?_, fun c2 => ?_⟩
        · skip
          have hbq1 := hbq (by omega)
          exact key (by omega) _ (by rw [if_neg (by omega)])
        · skip
          have hbq1 := hbq (by omega)
          exact key (by omega) _ (by rw [if_pos (by omega)]))
    refine T_Table_loadWithItselfLines_7 ?_
    try simp only [t0, t1, t2, t3, t4, t5, t6, t7, t8, t9, t10]
    try simp only [k0, k1, k2, k3]
    refine ⟨hgm.1.1, ?_⟩
    refine ⟨fun c1 => ?_, fun c1 => ?_⟩
    · skip
      have hL2 := hL0.2.2
      rw [show y = G 1 by omega, ← hs.2, show 2 * ng = w by omega] at hL2
      exact ⟨hL0.1, hL0.2.1, hL2⟩
    · skip
      exact L1 0 mm t (by omega) ⟨⟨by omega, by omega⟩, by rw [Int.add_zero]; exact htt0, by rw [Int.add_zero]; exact hL0⟩)
  refine S_Table_loadWithItselfLines ?_
  exact L0 0 m b (by omega) ⟨by omega, by rw [Int.zero_mul]; omega, fun _ _ => rfl, fun _ _ => rfl, fun i i0 i1 => by rw [Int.zero_mul] at i1; omega⟩
theorem c_Table_loadWithItself {d : Nat} {kd : ZK} {m : ZM} {g : Int} {G : GR} (hT : TB kd m) (hg : CG kd m g G) (ho : GOK G) (ht : 0 < G 0) (h4 : G 0 ≤ 4) (hz : 55 < g) : CtV (d + 6) M_Table_loadWithItself [(2, 45), (2, g)] kd m (fun m1 => TL kd m1 (G 0 * G 0) 2 (G 1 * G 1) 2 (G 1 * G 1 * 2) (fI G) ∧ ∀ e, e ≠ 45 → e ≠ 46 → m1 e = m e) := by
  obtain ⟨b0, b1, b2, b3, b4, hT⟩ := hT
  have h0 := ho.1
  have htt := ho.2.1 ht
  have s0 := zmul_in (a := G 0) (b := G 0) (A := 4) (B := 4) ⟨by omega, h4⟩ ⟨by omega, h4⟩
  have s1 := zmul_in h0.2.1 h0.2.1
  generalize hnq : G 0 * G 0 = nq at *
  generalize hng : G 1 * G 1 = ng at *
  generalize hwe : ng * 2 = w at *
  have u1 := zmul_in (a := nq + 1) (b := w) (A := 17) (B := 50) (by omega) (by omega)
  have u3 := zmul_in (a := nq * 2) (b := w) (A := 32) (B := 50) (by omega) (by omega)
  have hZ : TZ nq 2 ng 2 w := ⟨⟨⟨by omega, by omega⟩, ⟨by omega, by omega⟩, ⟨by omega, by omega⟩, by omega, by omega⟩, ⟨hwe.symm, by omega, by omega⟩, by omega, by omega, by omega⟩
  have L0 := zfor2 (G 0) (fun (x : Int) (mm : ZM) (t : Int) => Ev (d + 6) M_Table_loadWithItself 0 0 28 [(2, 45), (2, g), (0, t), (0, x), zJ] [] kd mm (zqV kd (fun m1 => TL kd m1 nq 2 ng 2 w (fI G) ∧ ∀ e, e ≠ 45 → e ≠ 46 → m1 e = m e))) (fun (x : Int) (mm : ZM) (t : Int) => 0 ≤ x ∧ LT2 kd m mm nq 2 ng 2 w t (x * G 0 * 2) (fI G)) (by
    intro x mm t hb hI0 KL0
    obtain ⟨hx0, hL0⟩ := hI0
    have hTm := hL0.1
    have hF := hL0.2.1
    have hgm : CG kd mm g G := hg.frame (fun a a1 a2 => hF a (by omega) (by omega))
    have t0 := hTm.2.1.1
    have t1 := hTm.2.1.2.1
    have t2 := hTm.2.1.2.2.1
    have t3 := hTm.2.1.2.2.2.1
    have t4 := hTm.2.1.2.2.2.2
    have t5 := hTm.2.2.1.1
    have t6 := hTm.2.2.1.2.1
    have t7 := hTm.2.2.1.2.2.1
    have t8 := hTm.2.2.1.2.2.2.1
    have t9 := hTm.2.2.1.2.2.2.2.1
    have t10 := hTm.2.2.1.2.2.2.2.2
    have k0 := hgm.2.1.1
    have k1 := hgm.2.1.2.1
    have k2 := hgm.2.1.2.2.1
    have k3 := hgm.2.1.2.2.2
    have L1 := zfor2 (G 0) (fun (z : Int) (mm : ZM) (t : Int) => Ev (d + 6) M_Table_loadWithItself 0 0 39 [(2, 45), (2, g), (0, t), (0, x), (0, z)] [] kd mm (zqV kd (fun m1 => TL kd m1 nq 2 ng 2 w (fI G) ∧ ∀ e, e ≠ 45 → e ≠ 46 → m1 e = m e))) (fun (z : Int) (mm : ZM) (t : Int) => (0 ≤ z ∧ x < G 0) ∧ LT2 kd m mm nq 2 ng 2 w t ((x * G 0 + z) * 2) (fI G)) (by
      intro z mm t hb hI1 KL1
      obtain ⟨⟨hz0, hxl⟩, hL1⟩ := hI1
      have hxg := mulL (w := G 0) hxl (by omega)
      have hxn := mulN (y := x) (w := G 0) (by omega) (by omega)
      have hTm := hL1.1
      have hF := hL1.2.1
      have hgm : CG kd mm g G := hg.frame (fun a a1 a2 => hF a (by omega) (by omega))
      have t0 := hTm.2.1.1
      have t1 := hTm.2.1.2.1
      have t2 := hTm.2.1.2.2.1
      have t3 := hTm.2.1.2.2.2.1
      have t4 := hTm.2.1.2.2.2.2
      have t5 := hTm.2.2.1.1
      have t6 := hTm.2.2.1.2.1
      have t7 := hTm.2.2.1.2.2.1
      have t8 := hTm.2.2.1.2.2.2.1
      have t9 := hTm.2.2.1.2.2.2.2.1
      have t10 := hTm.2.2.1.2.2.2.2.2
      have k0 := hgm.2.1.1
      have k1 := hgm.2.1.2.1
      have k2 := hgm.2.1.2.2.1
      have k3 := hgm.2.1.2.2.2
      refine T_Table_loadWithItself_39 ?_
      try simp only [t0, t1, t2, t3, t4, t5, t6, t7, t8, t9, t10]
      try simp only [k0, k1, k2, k3]
      refine ⟨hgm.1.1, ?_⟩
      refine ⟨fun c1 => ?_, fun c1 => ?_⟩
      · skip
        rw [iw_s (x := x + 1) (by omega) (by omega)]
        exact KL0 mm t (by omega) ⟨by omega, hL1.to (by rw [mulS, show z = G 0 by omega])⟩
      · skip
        refine ⟨hTm.1, _, c_Table_loadWithItselfLines hTm hZ ⟨hnq.symm, hng.symm⟩ hgm ho ht hz ⟨hx0, hxl⟩ ⟨hz0, by omega⟩ hL1.2.2.1, ?_⟩
        rintro m3 ⟨hA, hB, hC⟩
        refine ⟨hTm.1, ?_⟩
        have hix := hZ.ix (q := x * G 0 + z) (a := 1) ⟨by omega, by omega⟩ ⟨by omega, by omega⟩
        have htt3 := hL1.2.2.1
        have hls := mulS ((x * G 0 + z) * 2) w
        have hlt := mulS ((x * G 0 + z) * 2 + 1) w
        rw [hA 45 (by decide), t4, iw_s (x := 2 * w) (by omega) (by omega), iw_s (x := t + 2 * w) (by omega) (by omega), iw_s (x := z + 1) (by omega) (by omega)]
        rw [htt3] at hB hC
        have la := line_1 (na := 2) (w := w) (q := x * G 0 + z) (a := 0) (f := fI G) (mm := mm) (m1 := m3) (by omega) (by omega) (by rw [Int.add_zero]; exact hL1.2.2.2) (by rw [Int.add_zero]; exact hB) (by rw [Int.add_zero]; exact fun i i0 i1 => (hC i i0 i1).1)
        have lb := line_1 (na := 2) (w := w) (q := x * G 0 + z) (a := 1) (f := fI G) (mm := m3) (m1 := m3) (by omega) (by omega) la (fun _ _ => rfl) (by rw [mulS]; exact fun i i0 i1 => (hC i i0 i1).2)
        exact KL1 _ _ (by omega) ⟨⟨by omega, hxl⟩, hTm.frame (hA 45 (by decide)), fun e e1 e2 => by rw [hA e e2]; exact hF e e1 e2, by rw [show (x * G 0 + (z + 1)) * 2 = (x * G 0 + z) * 2 + 1 + 1 by omega]; omega, by rw [show (x * G 0 + (z + 1)) * 2 = (x * G 0 + z) * 2 + (1 + 1) by omega]; exact lb⟩)
    refine T_Table_loadWithItself_28 ?_
    try simp only [t0, t1, t2, t3, t4, t5, t6, t7, t8, t9, t10]
    try simp only [k0, k1, k2, k3]
    refine ⟨hgm.1.1, ?_⟩
    refine ⟨fun c1 => ?_, fun c1 => ?_⟩
    · skip
      have hX := hL0.2.2.2
      rw [show x = G 0 by omega, hnq] at hX
      exact ⟨⟨hTm, hZ, hX, fun q a i _ _ _ _ _ _ => fI_bd ho q a i⟩, hF⟩
    · skip
      exact L1 0 mm t (by omega) ⟨⟨by omega, by omega⟩, hL0.to (by rw [Int.add_zero])⟩)
  have hgm := hg
  have k0 := hgm.2.1.1
  have k1 := hgm.2.1.2.1
  have k2 := hgm.2.1.2.2.1
  have k3 := hgm.2.1.2.2.2
  refine S_Table_loadWithItself ?_
  try simp only [k0, k1, k2, k3]
  rw [hnq, hng, iw_s (x := nq) (by omega) (by omega), iw_s (x := ng) (by omega) (by omega)]
  refine ⟨hgm.1.1, hgm.1.1, hgm.1.1, hgm.1.1, ?_⟩
  refine ⟨hT.1, _, c_Table_setSizes hT (by omega), ?_⟩
  rintro m3 ⟨hA, hB⟩
  rw [hwe] at hA
  exact L0 0 _ 0 (by omega) ⟨by omega, hA, fun e e1 _ => hB e e1, by rw [Int.zero_mul, Int.zero_mul, Int.zero_mul], fun x x0 x1 => by rw [Int.zero_mul, Int.zero_mul, Int.zero_mul] at x1; omega⟩
