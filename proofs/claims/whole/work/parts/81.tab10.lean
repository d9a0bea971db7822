/-! TABLE, tenth: a game with itself -/
noncomputable def gZ_ (G : GR) (q o : Int) : Int := gZ G (q / G 0) (o / G 1) * gZ G (q % G 0) (o % G 1)
noncomputable def fI (G : GR) (q a i : Int) : Int := @ite Int ((a = 0 ∨ q = 0) ↔ i % 2 = 0) (Classical.propDecidable _) (gZ_ G q (i / 2)) (-(gZ_ G q (i / 2)))
theorem fI_t {G : GR} {q a i : Int} (h : (a = 0 ∨ q = 0) ↔ i % 2 = 0) : fI G q a i = gZ_ G q (i / 2) := if_pos h
theorem fI_f {G : GR} {q a i : Int} (h : ¬ ((a = 0 ∨ q = 0) ↔ i % 2 = 0)) : fI G q a i = -(gZ_ G q (i / 2)) := if_neg h
theorem gZ__bd {G : GR} (ho : GOK G) (q o : Int) : -81 ≤ gZ_ G q o ∧ gZ_ G q o ≤ 81 := zmul_bd (A := 9) (B := 9) (gZ_in ho _ _) (gZ_in ho _ _)
theorem fI_bd {G : GR} (ho : GOK G) (q a i : Int) : -81 ≤ fI G q a i ∧ fI G q a i ≤ 81 := by
  have := gZ__bd ho q (i / 2)
  rcases Classical.em ((a = 0 ∨ q = 0) ↔ i % 2 = 0) with h | h
  · rw [fI_t h]; exact this
  · rw [fI_f h]; omega
def LI (m mm : ZM) (b w k : Int) (F0 F1 : Int → Int) : Prop := (∀ e, e ≠ 46 → mm e = m e) ∧ (∀ x, x < b → mm 46 x = m 46 x) ∧ ∀ i, 0 ≤ i → i < k → mm 46 (b + i) = F0 i ∧ mm 46 (b + w + i) = F1 i
theorem LI_1 {m mm : ZM} {b w o c0 c1 s0 s1 : Int} {F0 F1 : Int → Int} (h : LI m mm b w (2 * o) F0 F1) (ho : 0 ≤ o) (hw : 2 * o + 2 ≤ w) (e0 : c0 = F0 (2 * o)) (e1 : c1 = F0 (2 * o + 1)) (e2 : s0 = F1 (2 * o)) (e3 : s1 = F1 (2 * o + 1)) : LI m (zup (zup (zup (zup mm 46 (b + 2 * o) c0) 46 (b + 2 * o + 1) c1) 46 (b + w + 2 * o) s0) 46 (b + w + 2 * o + 1) s1) b w (2 * (o + 1)) F0 F1 := by
  refine ⟨fun e he => by rw [zup_off he, zup_off he, zup_off he, zup_off he]; exact h.1 e he, fun x hx => by simp only [zup_at]; rw [gup_off (by omega), gup_off (by omega), gup_off (by omega), gup_off (by omega)]; exact h.2.1 x hx, fun i i0 i1 => ?_⟩
  simp only [zup_at]
  rcases (show i = 2 * o ∨ i = 2 * o + 1 ∨ i < 2 * o by omega) with q | q | q
  · subst q
    rw [gup_off (by omega), gup_off (by omega), gup_off (by omega), gup_at, gup_off (by omega), gup_at]
    exact ⟨e0, e2⟩
  · subst q
    rw [gup_off (by omega), gup_off (by omega), show b + (2 * o + 1) = b + 2 * o + 1 by omega, gup_at, show b + w + (2 * o + 1) = b + w + 2 * o + 1 by omega, gup_at]
    exact ⟨e1, e3⟩
  · rw [gup_off (by omega), gup_off (by omega), gup_off (by omega), gup_off (by omega), gup_off (by omega), gup_off (by omega), gup_off (by omega), gup_off (by omega)]
    exact h.2.2 i i0 q
theorem c_Table_loadWithItself {d : Nat} {kd : ZK} {m : ZM} {g : Int} {G : GR} (hT : TB kd m) (hg : CG kd m g G) (ho : GOK G) (ht : 0 < G 0) (h4 : G 0 ≤ 4) (hz : 55 < g) : CtV (d + 5) M_Table_loadWithItself [(2, 45), (2, g)] kd m (fun m1 => TL kd m1 (G 0 * G 0) 2 (G 1 * G 1) 2 (G 1 * G 1 * 2) (fI G) ∧ ∀ e, e ≠ 45 → e ≠ 46 → m1 e = m e) := by
  obtain ⟨b0, b1, b2, b3, b4, hT⟩ := hT
  have h0 := ho.1
  have htt := ho.2.1 ht
  have s0 := zmul_in (a := G 0) (b := G 0) (A := 4) (B := 4) ⟨by omega, h4⟩ ⟨by omega, h4⟩
  have s1 := zmul_in h0.2.1 h0.2.1
  generalize hnq : G 0 * G 0 = nq at *
  generalize hng : G 1 * G 1 = ng at *
  generalize hwe : ng * 2 = w at *
  have u1 := zmul_in (a := nq + 1) (b := w) (A := 17) (B := 50) (by omega) (by omega)
  have u3 := zmul_in (a := nq * 2) (b := w) (A := 32) (B := 50) (by omega) (by omega)
  have hZ : TZ nq 2 ng 2 w := ⟨⟨⟨by omega, by omega⟩, ⟨by omega, by omega⟩, ⟨by omega, by omega⟩, by omega, by omega⟩, ⟨hwe.symm, by omega, by omega⟩, by omega, by omega, by omega⟩
  have L0 := zfor1 (nq) (fun (q : Int) (mm : ZM) => Ev (d + 5) M_Table_loadWithItself 0 0 26 [(2, 45), (2, g), (0, q), zJ, zJ, zJ, zJ] [] kd mm (zqV kd (fun m1 => TL kd m1 nq 2 ng 2 w (fI G) ∧ ∀ e, e ≠ 45 → e ≠ 46 → m1 e = m e))) (fun (q : Int) (mm : ZM) => 0 ≤ q ∧ TS kd mm nq 2 ng 2 w ∧ (∀ e, e ≠ 45 → e ≠ 46 → mm e = m e) ∧ ∀ x, 0 ≤ x → x < q * 2 * w → mm 46 x = tF 2 w (fI G) x) (by
    intro q mm hb hI0 KL0
    obtain ⟨hq0, hTm, hF, hX⟩ := hI0
    have t0 := hTm.2.1.1
    have t1 := hTm.2.1.2.1
    have t2 := hTm.2.1.2.2.1
    have t3 := hTm.2.1.2.2.2.1
    have t4 := hTm.2.1.2.2.2.2
    have t5 := hTm.2.2.1.1
    have t6 := hTm.2.2.1.2.1
    have t7 := hTm.2.2.1.2.2.1
    have t8 := hTm.2.2.1.2.2.2.1
    have t9 := hTm.2.2.1.2.2.2.2.1
    have t10 := hTm.2.2.1.2.2.2.2.2
    refine T_Table_loadWithItself_26 ?_
    try simp only [t0, t1, t2, t3, t4, t5, t6, t7, t8, t9, t10]
    refine ⟨hTm.1, ?_⟩
    refine ⟨fun c1 => ?_, fun c1 => ?_⟩
    · skip
      rw [show q = nq by omega] at hX
      exact ⟨⟨hTm, hZ, hX, fun q a i _ _ _ _ _ _ => fI_bd ho q a i⟩, hF⟩
    · skip
      refine ⟨hTm.1, hTm.1, ?_⟩
      have qb := mulL (y := q * 2 + 1) (z := nq * 2) (w := w) (by omega) (by omega)
      have qc := mulS (q * 2) w
      have qd := mulN (y := q * 2) (w := w) (by omega) (by omega)
      rw [iw_s (x := q * 2) (by omega) (by omega), iw_s (x := q * 2 * w) (by omega) (by omega)]
      generalize hbe : q * 2 * w = b at *
      have L1 := zfor1 (ng) (fun (o : Int) (mn : ZM) => Ev (d + 5) M_Table_loadWithItself 0 0 49 [(2, 45), (2, g), (0, q), (0, b), (0, o), zJ, zJ] [] kd mn (zqV kd (fun m1 => TL kd m1 nq 2 ng 2 w (fI G) ∧ ∀ e, e ≠ 45 → e ≠ 46 → m1 e = m e))) (fun (o : Int) (mn : ZM) => (0 ≤ o ∧ q < nq) ∧ TS kd mn nq 2 ng 2 w ∧ (∀ e, e ≠ 45 → e ≠ 46 → mn e = m e) ∧ LI mm mn b w (2 * o) (fI G q 0) (fI G q 1)) (by
        intro o mn hb hI1 KL1
        obtain ⟨⟨ho0, hql⟩, hTm, hF, hL⟩ := hI1
        have hgm : CG kd mn g G := hg.frame (fun a a1 a2 => hF a (by omega) (by omega))
        have eq2 := dm2 hq0 (by rw [hnq]; exact hql) ht
        have eo : o < ng → (0 ≤ o / G 1 ∧ o / G 1 < G 1) ∧ 0 ≤ o % G 1 ∧ o % G 1 < G 1 := fun h => dm2 ho0 (by rw [hng]; exact h) (by omega)
        have ed1 : iw (Int.tdiv q (G 0)) = q / G 0 := by rw [Int.tdiv_eq_ediv_of_nonneg hq0]; exact iw_s (by omega) (by omega)
        have em1 : Int.tmod q (G 0) = q % G 0 := Int.tmod_eq_emod_of_nonneg hq0
        have ed2 : iw (Int.tdiv o (G 1)) = o / G 1 := by
          rw [Int.tdiv_eq_ediv_of_nonneg ho0]
          have := Int.ediv_le_self (G 1) ho0
          have := Int.ediv_nonneg ho0 (show 0 ≤ G 1 by omega)
          exact iw_s (by omega) (by omega)
        have em2 : Int.tmod o (G 1) = o % G 1 := Int.tmod_eq_emod_of_nonneg ho0
        have hgz := gZ__bd ho q o
        have hgzd : gZ G (q / G 0) (o / G 1) * gZ G (q % G 0) (o % G 1) = gZ_ G q o := rfl
        have hf0 : fI G q 0 (2 * o) = gZ_ G q o ∧ fI G q 0 (2 * o + 1) = -(gZ_ G q o) ∧ fI G q 1 (2 * o) = (if q = 0 then gZ_ G q o else -(gZ_ G q o)) ∧ fI G q 1 (2 * o + 1) = -(if q = 0 then gZ_ G q o else -(gZ_ G q o)) := by
          have a1 : 2 * o / 2 = o := by omega
          have a2 : (2 * o + 1) / 2 = o := by omega
          refine ⟨by rw [fI_t (by omega), a1], by rw [fI_f (by omega), a2], ?_, ?_⟩
          · by_cases hq : q = 0
            · rw [if_pos hq, fI_t (by omega), a1]
            · rw [if_neg hq, fI_f (by omega), a1]
          · by_cases hq : q = 0
            · rw [if_pos hq, fI_f (by omega), a2]
            · rw [if_neg hq, fI_t (by omega), a2, Int.neg_neg]
        have t0 := hTm.2.1.1
        have t1 := hTm.2.1.2.1
        have t2 := hTm.2.1.2.2.1
        have t3 := hTm.2.1.2.2.2.1
        have t4 := hTm.2.1.2.2.2.2
        have t5 := hTm.2.2.1.1
        have t6 := hTm.2.2.1.2.1
        have t7 := hTm.2.2.1.2.2.1
        have t8 := hTm.2.2.1.2.2.2.1
        have t9 := hTm.2.2.1.2.2.2.2.1
        have t10 := hTm.2.2.1.2.2.2.2.2
        have k0 := hgm.2.1.1
        have k1 := hgm.2.1.2.1
        have k2 := hgm.2.1.2.2.1
        have k3 := hgm.2.1.2.2.2
        refine T_Table_loadWithItself_49 ?_
        try simp only [t0, t1, t2, t3, t4, t5, t6, t7, t8, t9, t10]
        try simp only [k0, k1, k2, k3]
        simp only [ed1, em1, ed2, em2]
        refine ⟨hTm.1, ?_⟩
        refine ⟨fun c1 => ?_, fun c1 => ?_⟩
        · skip
          rw [iw_s (x := q + 1) (by omega) (by omega)]
          have hL2 := hL.2.2
          rw [show 2 * o = w by omega] at hL2
          refine KL0 mn (by omega) ⟨by omega, hTm, hF, ?_⟩
          have la := line_1 (na := 2) (w := w) (q := q) (a := 0) (f := fI G) (mm := mm) (m1 := mn) (by omega) (by omega) (by rw [Int.add_zero, hbe]; exact hX) (by rw [Int.add_zero, hbe]; exact hL.2.1) (by rw [Int.add_zero, hbe]; exact fun i i0 i1 => (hL2 i i0 i1).1)
          have lb := line_1 (na := 2) (w := w) (q := q) (a := 1) (f := fI G) (mm := mn) (m1 := mn) (by omega) (by omega) la (fun _ _ => rfl) (by rw [mulS, hbe]; exact fun i i0 i1 => (hL2 i i0 i1).2)
          rw [show (q + 1) * 2 = q * 2 + (1 + 1) by omega]
          exact lb
        · skip
          refine ⟨hgm.1.1, (by omega), hgm.1.1, (by omega), ?_⟩
          refine ⟨hgm.1.1, _, c_Game_signedWeight hgm ho (by omega) (by have := eo (by omega); omega), ?_⟩
          rintro _ _ ⟨rfl, rfl⟩
          try simp only [k0, k1, k2, k3]
          try simp only [em1, em2]
          try simp only [hgzd, zup_ne (show (45 : Int) ≠ 46 by decide), t4, t5]
          try rw [iw_s (x := 2 * o) (by omega) (by omega), iw_s (x := b + 2 * o) (by omega) (by omega), iw_s (x := b + 2 * o + 1) (by omega) (by omega), iw_s (x := gZ_ G q o) (by omega) (by omega), iw_s (x := -(gZ_ G q o)) (by omega) (by omega)]
          refine ⟨hgm.1.1, (by omega), hgm.1.1, (by omega), ?_⟩
          refine ⟨hgm.1.1, _, c_Game_signedWeight hgm ho (by omega) (by have := eo (by omega); omega), ?_⟩
          rintro _ _ ⟨rfl, rfl⟩
          try simp only [k0, k1, k2, k3]
          try simp only [em1, em2]
          try simp only [hgzd, zup_ne (show (45 : Int) ≠ 46 by decide), t4, t5]
          try rw [iw_s (x := 2 * o) (by omega) (by omega), iw_s (x := b + 2 * o) (by omega) (by omega), iw_s (x := b + 2 * o + 1) (by omega) (by omega), iw_s (x := gZ_ G q o) (by omega) (by omega), iw_s (x := -(gZ_ G q o)) (by omega) (by omega)]
          refine ⟨hTm.1, (hTm.i46 (by omega) (by omega)), hTm.1, (hTm.i46 (by omega) (by omega)), ?_⟩
          refine ⟨fun c2 => ?_, fun c2 => ?_⟩
          · skip
            try rw [iw_s (x := -(gZ_ G q o)) (by omega) (by omega)]
            obtain ⟨sv, hsv0⟩ : ∃ s, s = (-(gZ_ G q o)) := ⟨_, rfl⟩
            have hsv : sv = (if q = 0 then gZ_ G q o else -(gZ_ G q o)) := by rw [hsv0, if_neg (by assumption)]
            rw [← hsv0]
            refine T_Table_loadWithItself_136 ?_
            try simp only [zup_ne (show (45 : Int) ≠ 46 by decide), t0, t1, t2, t3, t4, t5]
            rw [iw_s (x := 2 * o) (by omega) (by omega), iw_s (x := b + w) (by omega) (by omega), iw_s (x := b + w + 2 * o) (by omega) (by omega), iw_s (x := b + w + 2 * o + 1) (by omega) (by omega)]
            refine ⟨hTm.1, hTm.1, (hTm.i46 (by omega) (by omega)), hTm.1, hTm.1, (hTm.i46 (by omega) (by omega)), ?_⟩
            rw [iw_s (x := o + 1) (by omega) (by omega), iw_s (x := -sv) (by omega) (by omega)]
            exact KL1 _ (by omega) ⟨⟨by omega, hql⟩, hTm.frame (by rw [zup_off (by decide), zup_off (by decide), zup_off (by decide), zup_off (by decide)]), fun e e1 e2 => by rw [zup_off e2, zup_off e2, zup_off e2, zup_off e2]; exact hF e e1 e2, LI_1 hL ho0 (by omega) (by have := hf0.1; omega) (by have := hf0.2.1; omega) (by rw [hsv, hf0.2.2.1]) (by rw [hsv, hf0.2.2.2])⟩
          · skip
            try rw [iw_s (x := -(gZ_ G q o)) (by omega) (by omega)]
            obtain ⟨sv, hsv0⟩ : ∃ s, s = (gZ_ G q o) := ⟨_, rfl⟩
            have hsv : sv = (if q = 0 then gZ_ G q o else -(gZ_ G q o)) := by rw [hsv0, if_pos (by omega)]
            rw [← hsv0]
            refine T_Table_loadWithItself_136 ?_
            try simp only [zup_ne (show (45 : Int) ≠ 46 by decide), t0, t1, t2, t3, t4, t5]
            rw [iw_s (x := 2 * o) (by omega) (by omega), iw_s (x := b + w) (by omega) (by omega), iw_s (x := b + w + 2 * o) (by omega) (by omega), iw_s (x := b + w + 2 * o + 1) (by omega) (by omega)]
            refine ⟨hTm.1, hTm.1, (hTm.i46 (by omega) (by omega)), hTm.1, hTm.1, (hTm.i46 (by omega) (by omega)), ?_⟩
            rw [iw_s (x := o + 1) (by omega) (by omega), iw_s (x := -sv) (by omega) (by omega)]
            exact KL1 _ (by omega) ⟨⟨by omega, hql⟩, hTm.frame (by rw [zup_off (by decide), zup_off (by decide), zup_off (by decide), zup_off (by decide)]), fun e e1 e2 => by rw [zup_off e2, zup_off e2, zup_off e2, zup_off e2]; exact hF e e1 e2, LI_1 hL ho0 (by omega) (by have := hf0.1; omega) (by have := hf0.2.1; omega) (by rw [hsv, hf0.2.2.1]) (by rw [hsv, hf0.2.2.2])⟩)
      exact L1 0 mm (by omega) ⟨⟨by omega, by omega⟩, hTm, hF, fun _ _ => rfl, fun _ _ => rfl, fun i i0 i1 => by omega⟩)
  have hgm := hg
  have k0 := hgm.2.1.1
  have k1 := hgm.2.1.2.1
  have k2 := hgm.2.1.2.2.1
  have k3 := hgm.2.1.2.2.2
  refine S_Table_loadWithItself ?_
  try simp only [k0, k1, k2, k3]
  rw [hnq, hng, iw_s (x := nq) (by omega) (by omega), iw_s (x := ng) (by omega) (by omega)]
  refine ⟨hgm.1.1, hgm.1.1, hgm.1.1, hgm.1.1, ?_⟩
  refine ⟨hT.1, _, c_Table_setSizes hT (by omega), ?_⟩
  rintro m3 ⟨hA, hB⟩
  rw [hwe] at hA
  exact L0 0 _ (by omega) ⟨by omega, hA, fun e e1 _ => hB e e1, fun x x0 x1 => by rw [Int.zero_mul, Int.zero_mul] at x1; omega⟩
