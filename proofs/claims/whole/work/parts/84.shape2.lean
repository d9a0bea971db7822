/-! SHAPE: orders -/
theorem lkB_1 {G : GR} {x y a s : Int} {b : Int} (h : 0 ≤ b) : lkB G x y a (b + 1).toNat s = 2 * lkB G x y a b.toNat s + gV G x y a b := by
  have e : (b + 1).toNat = b.toNat + 1 := by omega
  rw [e, lkB, show ((b.toNat : Nat) : Int) = b by omega]
theorem lkA_1 {G : GR} {x y : Int} {a : Int} (h : 0 ≤ a) : lkA G x y (a + 1).toNat = lkB G x y a (G 3).toNat (lkA G x y a.toNat) := by
  have e : (a + 1).toNat = a.toNat + 1 := by omega
  rw [e, lkA, show ((a.toNat : Nat) : Int) = a by omega]
def LK (G : GR) (m : ZM) (x y : Int) : Prop := ∀ u v, 0 ≤ u → u < G 0 → 0 ≤ v → v < G 1 → (u < x ∨ u = x ∧ v < y) → m 58 (zC 0 u v) = lk G u v
theorem c_Shape_noteLooks {d : Nat} {kd : ZK} {m : ZM} {g : Int} {G : GR} (hS : SH kd m) (hg : CG kd m g G) (ho : GOK G) (hz : 59 < g) : CtV (d + 3) M_Shape_noteLooks [(2, 56), (2, g)] kd m (fun m1 => (∀ e, e ≠ 58 → m1 e = m e) ∧ ∀ x y, 0 ≤ x → x < G 0 → 0 ≤ y → y < G 1 → m1 58 (zC 0 x y) = lk G x y) := by
  have h0 := ho.1
  have L0 := zfor1 (G 0) (fun (x : Int) (mm : ZM) => Ev (d + 3) M_Shape_noteLooks 0 0 2 [(2, 56), (2, g), (0, x), zJ, zJ, zJ, zJ] [] kd mm (zqV kd (fun m1 => (∀ e, e ≠ 58 → m1 e = m e) ∧ ∀ x y, 0 ≤ x → x < G 0 → 0 ≤ y → y < G 1 → m1 58 (zC 0 x y) = lk G x y))) (fun (x : Int) (mm : ZM) => 0 ≤ x ∧ (∀ e, e ≠ 58 → mm e = m e) ∧ LK G mm x 0) (by
    intro x mm hb hI0 KL0
    obtain ⟨hx0, hF, hL⟩ := hI0
    have hSm := hS.frame (m' := mm) (hF 56 (by decide))
    have hgm : CG kd mm g G := hg.frame (fun a a1 a2 => hF a (by omega))
    have s0 := hSm.2.1.1
    have s1 := hSm.2.1.2.1
    have s2 := hSm.2.1.2.2
    have k0 := hgm.2.1.1
    have k1 := hgm.2.1.2.1
    have k2 := hgm.2.1.2.2.1
    have k3 := hgm.2.1.2.2.2
    have L1 := zfor1 (G 1) (fun (y : Int) (mm : ZM) => Ev (d + 3) M_Shape_noteLooks 0 0 12 [(2, 56), (2, g), (0, x), (0, y), zJ, zJ, zJ] [] kd mm (zqV kd (fun m1 => (∀ e, e ≠ 58 → m1 e = m e) ∧ ∀ x y, 0 ≤ x → x < G 0 → 0 ≤ y → y < G 1 → m1 58 (zC 0 x y) = lk G x y))) (fun (y : Int) (mm : ZM) => (0 ≤ y ∧ x < G 0) ∧ (∀ e, e ≠ 58 → mm e = m e) ∧ LK G mm x y) (by
      intro y mm hb hI1 KL1
      obtain ⟨⟨hy0, hxl⟩, hF, hL⟩ := hI1
      have hSm := hS.frame (m' := mm) (hF 56 (by decide))
      have hgm : CG kd mm g G := hg.frame (fun a a1 a2 => hF a (by omega))
      have s0 := hSm.2.1.1
      have s1 := hSm.2.1.2.1
      have s2 := hSm.2.1.2.2
      have k0 := hgm.2.1.1
      have k1 := hgm.2.1.2.1
      have k2 := hgm.2.1.2.2.1
      have k3 := hgm.2.1.2.2.2
      have L2 := zfor1 (G 2) (fun (a : Int) (s : Int) => Ev (d + 3) M_Shape_noteLooks 0 0 36 [(2, 56), (2, g), (0, x), (0, y), (0, s), (0, a), zJ] [] kd mm (zqV kd (fun m1 => (∀ e, e ≠ 58 → m1 e = m e) ∧ ∀ x y, 0 ≤ x → x < G 0 → 0 ≤ y → y < G 1 → m1 58 (zC 0 x y) = lk G x y))) (fun (a : Int) (s : Int) => (0 ≤ a ∧ y < G 1) ∧ s = lkA G x y a.toNat) (by
        intro a s hb hI2 KL2
        obtain ⟨⟨ha0, hyl⟩, hs⟩ := hI2
        have L3 := zfor1 (G 3) (fun (b : Int) (t : Int) => Ev (d + 3) M_Shape_noteLooks 0 0 48 [(2, 56), (2, g), (0, x), (0, y), (0, t), (0, a), (0, b)] [] kd mm (zqV kd (fun m1 => (∀ e, e ≠ 58 → m1 e = m e) ∧ ∀ x y, 0 ≤ x → x < G 0 → 0 ≤ y → y < G 1 → m1 58 (zC 0 x y) = lk G x y))) (fun (b : Int) (t : Int) => (0 ≤ b ∧ a < G 2) ∧ t = lkB G x y a b.toNat s) (by
          intro b t hb hI3 KL3
          obtain ⟨⟨hb0, hal⟩, ht⟩ := hI3
          have hbd := lk_bd ho x y a (n := a.toNat) (b := b.toNat) (by omega) (by omega)
          rw [← hs, ← ht] at hbd
          have hv := ho.gV x y a b
          refine T_Shape_noteLooks_48 ?_
          try simp only [s0, s1, s2]
          try simp only [k0, k1, k2, k3]
          refine ⟨hgm.1.1, ?_⟩
          refine ⟨fun c1 => ?_, fun c1 => ?_⟩
          · skip
            rw [iw_s (x := a + 1) (by omega) (by omega)]
            exact KL2 _ (by omega) ⟨⟨by omega, hyl⟩, by rw [lkA_1 ha0, ← hs, ht, show b = G 3 by omega]⟩
          · skip
            refine ⟨hgm.1.1, ?_⟩
            refine ⟨_, c_Ap_spotOf (by omega) (by omega) (by omega) (by omega), ?_⟩
            rintro _ _ ⟨rfl, rfl⟩
            try simp only [k0, k1, k2, k3]
            refine ⟨(hgm.1.inV (zS_in (by omega) (by omega) (by omega) (by omega))), ?_⟩
            rw [iw_s (x := b + 1) (by omega) (by omega)]
            rw [hgm.V0 (x := x) (y := y) (a := a) (b := b) (by omega) (by omega) (by omega) (by omega), iw_s (x := 2 * t) (by omega) (by omega), iw_s (by omega) (by omega)]
            exact KL3 _ (by omega) ⟨⟨by omega, hal⟩, by rw [lkB_1 hb0, ← ht]⟩)
        refine T_Shape_noteLooks_36 ?_
        try simp only [s0, s1, s2]
        try simp only [k0, k1, k2, k3]
        refine ⟨hgm.1.1, ?_⟩
        refine ⟨fun c1 => ?_, fun c1 => ?_⟩
        · skip
          refine ⟨hSm.1, ?_⟩
          refine ⟨_, c_Ap_cellOf (by omega) (by omega), ?_⟩
          rintro _ _ ⟨rfl, rfl⟩
          try simp only [s0, s1, s2]
          refine ⟨⟨25, hSm.2.2.2.1, zC_in (p := 0) (by omega) (by omega)⟩, ?_⟩
          rw [iw_s (x := y + 1) (by omega) (by omega)]
          refine KL1 _ (by omega) ⟨⟨by omega, hxl⟩, fun e he => by rw [zup_off he]; exact hF e he, fun u v u0 u1 v0 v1 h => ?_⟩
          rw [zup_at]
          rcases (show (u < x ∨ u = x ∧ v < y) ∨ (u = x ∧ v = y) by omega) with q | q
          · rw [gup_off (fun e => by have := zC_inj e ⟨u0, by omega⟩ ⟨v0, by omega⟩ ⟨hx0, by omega⟩ ⟨hy0, by omega⟩; omega)]
            exact hL u v u0 u1 v0 v1 q
          · rw [q.1, q.2, gup_at, hs, show a = G 2 by omega]
            rfl
        · skip
          exact L3 0 _ (by omega) ⟨⟨by omega, by omega⟩, rfl⟩)
      refine T_Shape_noteLooks_12 ?_
      try simp only [s0, s1, s2]
      try simp only [k0, k1, k2, k3]
      refine ⟨hgm.1.1, ?_⟩
      refine ⟨fun c1 => ?_, fun c1 => ?_⟩
      · skip
        rw [iw_s (x := x + 1) (by omega) (by omega)]
        exact KL0 mm (by omega) ⟨by omega, hF, fun u v u0 u1 v0 v1 h => hL u v u0 u1 v0 v1 (by omega)⟩
      · skip
        refine ⟨hgm.1.1, ?_⟩
        refine ⟨_, c_Ap_cellOf (by omega) (by omega), ?_⟩
        rintro _ _ ⟨rfl, rfl⟩
        try simp only [k0, k1, k2, k3]
        refine ⟨(hgm.1.inW (zC_in (by omega) (by omega))), ?_⟩
        rw [hgm.W0 (x := x) (y := y) (by omega) (by omega)]
        exact L2 0 _ (by omega) ⟨⟨by omega, by omega⟩, rfl⟩)
    refine T_Shape_noteLooks_2 ?_
    try simp only [s0, s1, s2]
    try simp only [k0, k1, k2, k3]
    refine ⟨hgm.1.1, ?_⟩
    refine ⟨fun c1 => ?_, fun c1 => ?_⟩
    · skip
      exact ⟨hF, fun u v u0 u1 v0 v1 => hL u v u0 u1 v0 v1 (by omega)⟩
    · skip
      exact L1 0 mm (by omega) ⟨⟨by omega, by omega⟩, hF, hL⟩)
  refine S_Shape_noteLooks ?_
  exact L0 0 m (by omega) ⟨by omega, fun _ _ => rfl, fun u v u0 u1 v0 v1 h => by omega⟩
theorem c_Shape_looksLike {d : Nat} {kd : ZK} {m : ZM} {G : GR} {y z : Int} (hS : SH kd m) (ho : GOK G) (hK : ∀ x y, 0 ≤ x → x < G 0 → 0 ≤ y → y < G 1 → m 58 (zC 0 x y) = lk G x y) (hO : ∀ q, 0 ≤ q → q < G 0 → 0 ≤ m 59 q ∧ m 59 q < G 0) (hy : 0 ≤ y ∧ y < G 1) (hz : 0 ≤ z ∧ z < G 1) : CtI (d + 2) M_Shape_looksLike [(2, 56), (0, G 0), (0, y), (0, z)] kd m (qE m (zb (lkL G (m 59) y z))) := by
  have h0 := ho.1
  have hSm := hS
  have s0 := hSm.2.1.1
  have s1 := hSm.2.1.2.1
  have s2 := hSm.2.1.2.2
  have L0 := zfor0 (G 0) (fun (x : Int)  => Ev (d + 2) M_Shape_looksLike 0 0 3 [(2, 56), (0, (G 0)), (0, y), (0, z), (0, x)] [] kd m (zqI kd (qE m (zb (lkL G (m 59) y z))))) (fun (x : Int)  => 0 ≤ x ∧ ∀ u, 0 ≤ u → u < x → lk G u y = lk G (m 59 u) z) (by
    intro x  hb hI0 KL0
    obtain ⟨hx0, hX⟩ := hI0
    have hox : x < G 0 → 0 ≤ m 59 x ∧ m 59 x < G 0 := fun h => hO x hx0 h
    refine T_Shape_looksLike_3 ?_
    try simp only [s0, s1, s2]
    refine ⟨fun c1 => ?_, fun c1 => ?_⟩
    · skip
      exact ⟨(zb_t (fun u u0 u1 => hX u u0 (by omega))).symm, rfl⟩
    · skip
      refine ⟨hS.1, ?_⟩
      refine ⟨_, c_Ap_cellOf (by have := hox (by omega); omega) (by omega), ?_⟩
      rintro _ _ ⟨rfl, rfl⟩
      try simp only [s0, s1, s2]
      have hox2 := hox (by omega)
      refine ⟨⟨25, hS.2.2.2.1, zC_in (p := 0) (by omega) (by omega)⟩, hS.1, hS.1, ⟨5, hS.2.2.2.2, by omega, by omega⟩, ?_⟩
      refine ⟨_, c_Ap_cellOf (by have := hox (by omega); omega) (by omega), ?_⟩
      rintro _ _ ⟨rfl, rfl⟩
      try simp only [s0, s1, s2]
      have hox2 := hox (by omega)
      refine ⟨⟨25, hS.2.2.2.1, zC_in (p := 0) (by omega) (by omega)⟩, ?_⟩
      refine ⟨fun c2 => ?_, fun c2 => ?_⟩
      · skip
        rw [iw_s (x := x + 1) (by omega) (by omega)]
        rw [hK x y hx0 (by omega) hy.1 hy.2, hK _ z (by omega) (by omega) hz.1 hz.2] at c2
        refine KL0 (by omega) ⟨by omega, fun u u0 u1 => ?_⟩
        rcases (show u < x ∨ u = x by omega) with q | q
        · exact hX u u0 q
        · rw [q]; exact c2
      · skip
        rw [hK x y hx0 (by omega) hy.1 hy.2, hK _ z (by omega) (by omega) hz.1 hz.2] at c2
        exact ⟨(zb_f (fun h => c2 (h x hx0 (by omega)))).symm, rfl⟩)
  refine S_Shape_looksLike ?_
  exact L0 0 (by omega) ⟨by omega, fun u u0 u1 => by omega⟩
theorem c_Shape_freePlace {d : Nat} {kd : ZK} {m : ZM} {u c n : Int} (hu : b32 u) (hn : 0 ≤ n ∧ n ≤ 5) (hc : 0 ≤ c ∧ c ≤ 1000) : CtI (d + 1) M_Shape_freePlace [(0, u), (0, c), (0, n)] kd m (qE m (fpN u n.toNat 0 c)) := by
  have L0 := zfor1 (n) (fun (p : Int) (l : Int) => Ev (d + 1) M_Shape_freePlace 0 0 5 [(0, u), zJ, (0, n), (0, l), (0, p)] [] kd m (zqI kd (qE m (fpN u n.toNat 0 c)))) (fun (p : Int) (l : Int) => 0 ≤ p ∧ (0 ≤ l ∧ l ≤ 1000) ∧ fpN u (n - p).toNat p l = fpN u n.toNat 0 c) (by
    intro p l hb hI0 KL0
    obtain ⟨hp0, hl, hX⟩ := hI0
    have ek : p < n → (n - p).toNat = (n - (p + 1)).toNat + 1 := fun h => by omega
    have hsb : p < n → (¬ sbit u p ↔ zand (zshr u p) 1 = 0) := fun h => sbit_01 hu ⟨hp0, by omega⟩
    refine T_Shape_freePlace_5 ?_
    refine ⟨fun c1 => ?_, fun c1 => ?_⟩
    · skip
      rw [show (n - p).toNat = 0 by omega] at hX
      exact ⟨hX, rfl⟩
    · skip
      refine ⟨fun c2 => ?_, fun c2 => ?_⟩
      · skip
        rw [iw_s (x := p + 1) (by omega) (by omega)]
        rw [ek (by omega), fpN_b (Classical.byContradiction fun h => absurd ((hsb (by omega)).1 h) (by assumption))] at hX
        exact KL0 _ (by omega) ⟨by omega, hl, hX⟩
      · skip
        refine ⟨fun c3 => ?_, fun c3 => ?_⟩
        · skip
          rw [iw_s (x := p + 1) (by omega) (by omega)]
          rw [iw_s (x := l + -1) (by omega) (by omega)]
          rw [ek (by omega), fpN_s ((hsb (by omega)).2 (by omega)) (by omega)] at hX
          exact KL0 _ (by omega) ⟨by omega, ⟨by omega, by omega⟩, by rw [show l + -1 = l - 1 by omega]; exact hX⟩
        · skip
          rw [ek (by omega), show l = 0 by omega, fpN_0 ((hsb (by omega)).2 (by omega))] at hX
          exact ⟨hX, rfl⟩)
  refine S_Shape_freePlace ?_
  exact L0 0 c (by omega) ⟨by omega, hc, by rw [Int.sub_zero]⟩
theorem c_Shape_setOrder {d : Nat} {kd : ZK} {m : ZM} {c n : Int} (hS : SH kd m) (hn : 0 ≤ n ∧ n ≤ 5) (hc : 0 ≤ c ∧ c ≤ 1000) : CtV (d + 2) M_Shape_setOrder [(2, 56), (0, c), (0, n)] kd m (fun m1 => (∀ e, e ≠ 59 → m1 e = m e) ∧ m1 59 = pmN n n.toNat 0 c (m 59)) := by
  have L0 := zfor3 (n) (fun (i : Int) (mm : ZM) (l : Int) (u : Int) => Ev (d + 2) M_Shape_setOrder 0 0 8 [(2, 56), zJ, (0, n), (0, l), (0, u), (0, i), zJ] [] kd mm (zqV kd (fun m1 => (∀ e, e ≠ 59 → m1 e = m e) ∧ m1 59 = pmN n n.toNat 0 c (m 59)))) (fun (i : Int) (mm : ZM) (l : Int) (u : Int) => (0 ≤ i ∧ b32 u ∧ nfr n u = n - i ∧ 0 ≤ l ∧ l ≤ 1000) ∧ (∀ e, e ≠ 59 → mm e = m e) ∧ pmN n (n - i).toNat u l (mm 59) = pmN n n.toNat 0 c (m 59)) (by
    intro i mm l u hb hI0 KL0
    obtain ⟨⟨hi0, hu, hfr, hl0, hl1⟩, hF, hX⟩ := hI0
    have hSm := hS.frame (hF 56 (by decide))
    have ek : i < n → (n - i).toNat = (n - i - 1).toNat + 1 := fun h => by omega
    have en : iw (n - i) = n - i := iw_s (by omega) (by omega)
    have em : Int.tmod l (n - i) = l % (n - i) := Int.tmod_eq_emod_of_nonneg hl0
    have ed : Int.tdiv l (n - i) = l / (n - i) := Int.tdiv_eq_ediv_of_nonneg hl0
    have s0 := hSm.2.1.1
    have s1 := hSm.2.1.2.1
    have s2 := hSm.2.1.2.2
    refine T_Shape_setOrder_8 ?_
    try simp only [s0, s1, s2]
    simp only [en, em, ed]
    refine ⟨fun c1 => ?_, fun c1 => ?_⟩
    · skip
      rw [show (n - i).toNat = 0 by omega] at hX
      exact ⟨hF, hX⟩
    · skip
      refine ⟨hSm.1, (by omega), ?_⟩
      refine ⟨_, c_Shape_freePlace hu hn ⟨Int.emod_nonneg _ (by omega), by have := Int.emod_lt_of_pos l (show 0 < n - i by omega); omega⟩, ?_⟩
      rintro _ _ ⟨rfl, rfl⟩
      have hm0 := Int.emod_nonneg l (show n - i ≠ 0 by omega)
      have hm1 := Int.emod_lt_of_pos l (show 0 < n - i by omega)
      have hf := fpN_in (u := u) n.toNat 0 (l % (n - i)) hm0 (by simp only [Int.zero_add]; show l % (n - i) < nfr n u; omega)
      have hdl := Int.ediv_le_self (n - i) hl0
      have hdn := Int.ediv_nonneg hl0 (show 0 ≤ n - i by omega)
      generalize hfp : fpN u n.toNat 0 (l % (n - i)) = x at *
      have z56 : (zup mm 59 i x) 56 = mm 56 := zup_off (by decide)
      simp only [s2, z56, zup_self]
      refine ⟨⟨5, hSm.2.2.2.2, by omega, by omega⟩, (by omega), hSm.1, ⟨5, hSm.2.2.2.2, by omega, by omega⟩, ?_⟩
      rw [iw_s (x := i + 1) (by omega) (by omega)]
      rw [iw_s (x := l / (n - i)) (by omega) (by omega)]
      rw [ek (by omega), pmN, show (((n - i - 1).toNat : Nat) : Int) + 1 = n - i by omega, hfp, show n - (n - i) = i by omega] at hX
      refine KL0 _ _ (zor u (zshl 1 x)) (by omega) ⟨⟨by omega, uor_in hu ⟨by omega, by omega⟩, ?_, by omega, by omega⟩, fun e he => by rw [zup_off he]; exact hF e he, ?_⟩
      · have := nfr_u hn hu (x := x) ⟨by omega, by omega⟩ hf.2
        unfold uor at this
        omega
      · rw [zup_at, show n - (i + 1) = n - i - 1 by omega]
        exact hX)
  refine S_Shape_setOrder ?_
  exact L0 0 m c 0 (by omega) ⟨⟨by omega, ⟨by decide, by decide⟩, by rw [nfr_0 hn]; omega, hc.1, hc.2⟩, fun _ _ => rfl, by rw [Int.sub_zero]⟩
theorem pw5_in (n : Nat) (h : n ≤ 5) : 1 ≤ (5 : Int) ^ n ∧ (5 : Int) ^ n ≤ 3125 := by
  have : n = 0 ∨ n = 1 ∨ n = 2 ∨ n = 3 ∨ n = 4 ∨ n = 5 := by omega
  rcases this with e | e | e | e | e | e <;> subst e <;> decide
theorem pw5_in4 (n : Nat) (h : n ≤ 4) : (5 : Int) ^ n ≤ 625 := by
  have : n = 0 ∨ n = 1 ∨ n = 2 ∨ n = 3 ∨ n = 4 := by omega
  rcases this with e | e | e | e | e <;> subst e <;> decide
theorem c_Shape_ordersOfBen {d : Nat} {kd : ZK} {m : ZM} {g : Int} {G : GR} (hS : SH kd m) (hg : CG kd m g G) (ho : GOK G) (hK : ∀ x y, 0 ≤ x → x < G 0 → 0 ≤ y → y < G 1 → m 58 (zC 0 x y) = lk G x y) (hO : ∀ q, 0 ≤ q → q < G 0 → 0 ≤ m 59 q ∧ m 59 q < G 0) : CtI (d + 3) M_Shape_ordersOfBen [(2, 56), (2, g)] kd m (qE m (benN G (m 59))) := by
  have h0 := ho.1
  have hgm := hg
  have hd := lkL_dif G (m 59)
  have hn5 : 0 ≤ G 1 ∧ G 1 ≤ 5 := h0.2.1
  generalize hL : lkL G (m 59) = L at *
  have hlk : ∀ y z, 0 ≤ y → y < G 1 → 0 ≤ z → z < G 1 → CtI (d + 2) M_Shape_looksLike [(2, 56), (0, G 0), (0, y), (0, z)] kd m (qE m (zb (L y z))) := fun y z y0 y1 z0 z1 => by
    rw [← hL]; exact c_Shape_looksLike hS ho hK hO ⟨y0, y1⟩ ⟨z0, z1⟩
  have k0 := hgm.2.1.1
  have k1 := hgm.2.1.2.1
  have k2 := hgm.2.1.2.2.1
  have k3 := hgm.2.1.2.2.2
  have L0 := zfor2 (G 1) (fun (y : Int) (t : Int) (u : Int) => Ev (d + 3) M_Shape_ordersOfBen 0 0 7 [(2, 56), (2, g), (0, t), (0, u), (0, y), zJ, zJ, zJ] [] kd m (zqI kd (qE m (benN G (m 59))))) (fun (y : Int) (t : Int) (u : Int) => (0 ≤ y ∧ b32 u ∧ 0 ≤ t ∧ t ≤ 5 ^ y.toNat) ∧ t * bSum (G 1) L (G 1 - y).toNat u = bSum (G 1) L (G 1).toNat 0) (by
    intro y t u hb hI0 KL0
    obtain ⟨⟨hy0, hu, ht0, ht1⟩, hX⟩ := hI0
    have hp := pw5_in y.toNat (by omega)
    have L1 := zfor2 (G 1) (fun (z : Int) (c : Int) (x : Int) => Ev (d + 3) M_Shape_ordersOfBen 0 0 29 [(2, 56), (2, g), (0, t), (0, u), (0, y), (0, c), (0, x), (0, z)] [] kd m (zqI kd (qE m (benN G (m 59))))) (fun (z : Int) (c : Int) (x : Int) => (0 ≤ z ∧ y < G 1 ∧ 0 < t) ∧ c = zsum z.toNat (fun z => zb (¬ sbit u z ∧ L y z)) ∧ ((c = 0 ∧ x = 0 ∧ ∀ i, 0 ≤ i → i < z → ¬ (¬ sbit u i ∧ L y i)) ∨ (0 ≤ x ∧ x < z ∧ ¬ sbit u x ∧ L y x))) (by
      intro z c x hb hI1 KL1
      obtain ⟨⟨hz0, hyl, htp⟩, hc, hx⟩ := hI1
      have hs := zsum_le (C := 1) (f := (fun z => zb (¬ sbit u z ∧ L y z))) (by decide) (fun _ => zb_01) z.toNat
      have x1 := zsum_1 hz0 (fun z => zb (¬ sbit u z ∧ L y z))
      have hsb : z < G 1 → (¬ sbit u z ↔ zand (zshr u z) 1 = 0) := fun h => sbit_01 hu ⟨hz0, by omega⟩
      refine T_Shape_ordersOfBen_29 ?_
      try simp only [k0, k1, k2, k3]
      refine ⟨hgm.1.1, ?_⟩
      refine ⟨fun c1 => ?_, fun c1 => ?_⟩
      · skip
        have ec : c = cntL (G 1) L u y := by rw [hc, show z = G 1 by omega]; rfl
        have hp4 := pw5_in4 y.toNat (by omega)
        have hm := zmul_in (a := t) (b := c) (A := 625) (B := 5) (by omega) (by omega)
        have hp2 : (5 : Int) ^ (y + 1).toNat = 5 ^ y.toNat * 5 := by rw [show (y + 1).toNat = y.toNat + 1 by omega, Int.pow_succ]
        have hm2 := zmul_in (a := t) (b := c) (A := 5 ^ y.toNat) (B := 5) (by omega) (by omega)
        have ek : (G 1 - y).toNat = (G 1 - (y + 1)).toNat + 1 := by omega
        have ek2 : G 1 - ((((G 1 - (y + 1)).toNat : Nat) : Int) + 1) = y := by omega
        rw [iw_s (x := y + 1) (by omega) (by omega), iw_s (x := t * c) (by omega) (by omega)]
        refine KL0 _ (zor u (zshl 1 x)) (by omega) ⟨⟨by omega, uor_in hu ⟨by omega, by omega⟩, by omega, by omega⟩, ?_⟩
        rcases hx with hx | hx
        · rw [ek, bSum_n (fun i i0 i1 => by rw [ek2]; exact hx.2.2 i i0 (by omega)), Int.mul_zero] at hX
          rw [hx.1, Int.mul_zero, Int.zero_mul]
          exact hX
        · rw [ek, bSum_s hn5 hd hu (x := x) ⟨hx.1, by omega⟩ (by rw [ek2]; exact hx.2.2), ek2, ← ec, ← Int.mul_assoc] at hX
          exact hX
      · skip
        refine ⟨fun c2 => ?_, fun c2 => ?_⟩
        · skip
          rw [iw_s (x := z + 1) (by omega) (by omega)]
          have hno : ¬ (¬ sbit u z ∧ L y z) := fun h => by first | exact absurd h.2 (by assumption) | exact absurd ((hsb (by omega)).1 h.1) (by assumption)
          rw [zb_f hno] at x1
          refine KL1 _ _ (by omega) ⟨⟨by omega, hyl, htp⟩, by omega, ?_⟩
          rcases hx with hx | hx
          · refine Or.inl ⟨hx.1, hx.2.1, fun i i0 i1 => ?_⟩
            rcases (show i < z ∨ i = z by omega) with q | q
            · exact hx.2.2 i i0 q
            · rw [q]; exact hno
          · exact Or.inr ⟨hx.1, by omega, hx.2.2⟩
        · skip
          refine ⟨hgm.1.1, ?_⟩
          refine ⟨hS.1, _, hlk y z hy0 hyl hz0 (by omega), ?_⟩
          rintro _ _ ⟨rfl, rfl⟩
          refine ⟨fun c3 => ?_, fun c3 => ?_⟩
          · try simp only [zb_eq0, zb_ne0] at c3
            rw [iw_s (x := z + 1) (by omega) (by omega)]
            have hno : ¬ (¬ sbit u z ∧ L y z) := fun h => by first | exact absurd h.2 (by assumption) | exact absurd ((hsb (by omega)).1 h.1) (by assumption)
            rw [zb_f hno] at x1
            refine KL1 _ _ (by omega) ⟨⟨by omega, hyl, htp⟩, by omega, ?_⟩
            rcases hx with hx | hx
            · refine Or.inl ⟨hx.1, hx.2.1, fun i i0 i1 => ?_⟩
              rcases (show i < z ∨ i = z by omega) with q | q
              · exact hx.2.2 i i0 q
              · rw [q]; exact hno
            · exact Or.inr ⟨hx.1, by omega, hx.2.2⟩
          · try simp only [zb_eq0, zb_ne0] at c3
            rw [iw_s (x := z + 1) (by omega) (by omega)]
            have hyes : ¬ sbit u z ∧ L y z := ⟨(hsb (by omega)).2 (by omega), by first | assumption | exact Classical.not_not.1 (by assumption)⟩
            rw [iw_s (x := c + 1) (by omega) (by omega)]
            rw [zb_t hyes] at x1
            exact KL1 _ _ (by omega) ⟨⟨by omega, hyl, htp⟩, by omega, Or.inr ⟨hz0, by omega, hyes⟩⟩)
    refine T_Shape_ordersOfBen_7 ?_
    try simp only [k0, k1, k2, k3]
    refine ⟨hgm.1.1, ?_⟩
    refine ⟨fun c1 => ?_, fun c1 => ?_⟩
    · skip
      first | (rw [show (G 1 - y).toNat = 0 by omega, bSum, Int.mul_one] at hX; exact ⟨by rw [benN, hL]; exact hX, rfl⟩) | (rw [show t = 0 by omega, Int.zero_mul] at hX; exact ⟨by rw [benN, hL, ← hX]; omega, rfl⟩)
    · skip
      refine ⟨fun c2 => ?_, fun c2 => ?_⟩
      · skip
        first | (rw [show (G 1 - y).toNat = 0 by omega, bSum, Int.mul_one] at hX; exact ⟨by rw [benN, hL]; exact hX, rfl⟩) | (rw [show t = 0 by omega, Int.zero_mul] at hX; exact ⟨by rw [benN, hL, ← hX]; omega, rfl⟩)
      · skip
        exact L1 0 0 0 (by omega) ⟨⟨by omega, by omega, by omega⟩, rfl, Or.inl ⟨rfl, rfl, fun i i0 i1 => by omega⟩⟩)
  refine S_Shape_ordersOfBen ?_
  exact L0 0 1 0 (by omega) ⟨⟨by omega, ⟨by decide, by decide⟩, by omega, by simp⟩, by rw [Int.one_mul, Int.sub_zero]⟩
theorem benN_congr {G : GR} {o p : Int → Int} (h : ∀ q, 0 ≤ q → q < G 0 → o q = p q) : benN G o = benN G p := by
  unfold benN
  rw [show lkL G o = lkL G p from by
    funext y z
    refine propext ⟨fun e x x0 x1 => by rw [e x x0 x1, h x x0 x1], fun e x x0 x1 => by rw [e x x0 x1, h x x0 x1]⟩]
theorem zfac_1 {i : Int} (h : 0 ≤ i) : (zfac (i + 1).toNat : Int) = zfac i.toNat * (i + 1) := by
  have e : (i + 1).toNat = i.toNat + 1 := by omega
  rw [e, zfac, Int.natCast_mul]
  congr 1
  omega
theorem c_Shape_ordersOf {d : Nat} {kd : ZK} {m : ZM} {g : Int} {G : GR} (hS : SH kd m) (hg : CG kd m g G) (ho : GOK G) (ht : 0 < G 0) (hz : 59 < g) : CtI (d + 4) M_Shape_ordersOf [(2, 56), (2, g)] kd m (fun x m1 => x = symN G ∧ ∀ e, e ≠ 58 → e ≠ 59 → m1 e = m e) := by
  have h0 := ho.1
  have hfn := zfac_in (G 0).toNat (by omega)
  have hB : ∀ c, 0 ≤ benN G (pmN (G 0) (G 0).toNat 0 c (fun _ => 0)) ∧ benN G (pmN (G 0) (G 0).toNat 0 c (fun _ => 0)) ≤ 3125 := fun c => by
    have h1 := bSum_in (L := lkL G (pmN (G 0) (G 0).toNat 0 c (fun _ => 0))) h0.2.1 (G 1).toNat 0
    have h2 := pw5_in (G 1).toNat (by omega)
    unfold benN
    omega
  have hsum : zsum (zfac (G 0).toNat) (fun c => benN G (pmN (G 0) (G 0).toNat 0 c (fun _ => 0))) = symN G := oSum_eq h0.1 (G 0).toNat 0 (fun _ => 0) ⟨by decide, by decide⟩ (by rw [nfr_0 h0.1]; omega)
  refine S_Shape_ordersOf ⟨hS.1, _, c_Shape_noteLooks hS hg ho hz, ?_⟩
  rintro mq ⟨hFq, hKq⟩
  have hgq : CG kd mq g G := hg.frame (fun a a1 a2 => hFq a (by omega))
  have L1 := zfor2 ((zfac (G 0).toNat : Int)) (fun (c : Int) (mm : ZM) (t : Int) => Ev (d + 4) M_Shape_ordersOf 0 0 32 [(2, 56), (2, g), (0, (zfac (G 0).toNat : Int)), (0, t), (0, c)] [] kd mm (zqI kd (fun x m1 => x = symN G ∧ ∀ e, e ≠ 58 → e ≠ 59 → m1 e = m e))) (fun (c : Int) (mm : ZM) (t : Int) => 0 ≤ c ∧ (∀ e, e ≠ 58 → e ≠ 59 → mm e = m e) ∧ mm 58 = mq 58 ∧ t = zsum c.toNat (fun c => benN G (pmN (G 0) (G 0).toNat 0 c (fun _ => 0)))) (by
    intro c mm t hb hI KL1
    obtain ⟨hc0, hF, h58, hts⟩ := hI
    have hs := zsum_le (C := 3125) (f := fun c => benN G (pmN (G 0) (G 0).toNat 0 c (fun _ => 0))) (by decide) hB c.toNat
    have hBc := hB c
    have hSm := hS.frame (m' := mm) (hF 56 (by decide) (by decide))
    have hgm : CG kd mm g G := hg.frame (fun a a1 a2 => hF a (by omega) (by omega))
    have s0 := hSm.2.1.1
    have s1 := hSm.2.1.2.1
    have s2 := hSm.2.1.2.2
    have k0 := hgm.2.1.1
    have k1 := hgm.2.1.2.1
    have k2 := hgm.2.1.2.2.1
    have k3 := hgm.2.1.2.2.2
    refine T_Shape_ordersOf_32 ?_
    try simp only [k0, k1, k2, k3]
    refine ⟨fun c1 => ?_, fun c1 => ?_⟩
    · skip
      exact ⟨by rw [hts, ← hsum]; congr 1; omega, hF⟩
    · skip
      refine ⟨hgm.1.1, ?_⟩
      refine ⟨hSm.1, _, c_Shape_setOrder hSm h0.1 ⟨hc0, by omega⟩, ?_⟩
      rintro m3 ⟨hA, hO⟩
      have hg3 : CG kd m3 g G := hgm.frame (fun a a1 a2 => hA a (by omega))
      have hO3 : ∀ q, 0 ≤ q → q < G 0 → 0 ≤ m3 59 q ∧ m3 59 q < G 0 := fun q q0 q1 => by
        rw [hO]
        exact pmN_in h0.1 (G 0).toNat 0 c (mm 59) ⟨by decide, by decide⟩ (by rw [nfr_0 h0.1]; omega) (fun j j0 j1 => by omega) q q0 q1
      have eB : benN G (m3 59) = benN G (pmN (G 0) (G 0).toNat 0 c (fun _ => 0)) := benN_congr (fun q q0 q1 => by
        rw [hO]
        exact pmN_congr (G 0).toNat 0 c _ _ (fun j j0 j1 => by omega) q q0 q1)
      refine ⟨hSm.1, _, c_Shape_ordersOfBen (hSm.frame (hA 56 (by decide))) hg3 ho (fun x y x0 x1 y0 y1 => by rw [hA 58 (by decide), h58]; exact hKq x y x0 x1 y0 y1) hO3, ?_⟩
      rintro _ _ ⟨rfl, rfl⟩
      rw [eB]
      rw [iw_s (x := c + 1) (by omega) (by omega)]
      rw [iw_s (by omega) (by omega)]
      exact KL1 _ _ (by omega) ⟨by omega, fun e e1 e2 => by rw [hA e e2]; exact hF e e1 e2, by rw [hA 58 (by decide)]; exact h58, by rw [zsum_1 hc0, hts]⟩)
  have L0 := zfor1 (G 0 + 1) (fun (i : Int) (t : Int) => Ev (d + 4) M_Shape_ordersOf 0 0 9 [(2, 56), (2, g), (0, t), (0, i), zJ] [] kd mq (zqI kd (fun x m1 => x = symN G ∧ ∀ e, e ≠ 58 → e ≠ 59 → m1 e = m e))) (fun (i : Int) (t : Int) => 2 ≤ i ∧ t = (zfac (i - 1).toNat : Int)) (by
    intro i t hb hI KL0
    obtain ⟨hi0, hts⟩ := hI
    have hf1 := zfac_in (i - 1).toNat (by omega)
    have hm := zmul_in (a := t) (b := i) (A := 120) (B := 6) (by omega) (by omega)
    have hgm := hgq
    have k0 := hgm.2.1.1
    have k1 := hgm.2.1.2.1
    have k2 := hgm.2.1.2.2.1
    have k3 := hgm.2.1.2.2.2
    refine T_Shape_ordersOf_9 ?_
    try simp only [k0, k1, k2, k3]
    refine ⟨hgm.1.1, ?_⟩
    refine ⟨fun c1 => ?_, fun c1 => ?_⟩
    · skip
      rw [hts, show (i - 1).toNat = (G 0).toNat by omega]
      exact L1 0 mq 0 (by omega) ⟨by omega, fun e e1 _ => hFq e e1, rfl, rfl⟩
    · skip
      rw [iw_s (x := i + 1) (by omega) (by omega)]
      rw [iw_s (by omega) (by omega)]
      exact KL0 _ (by omega) ⟨by omega, by have x1 := zfac_1 (i := i - 1) (by omega); rw [show i - 1 + 1 = i by omega] at x1; rw [show i + 1 - 1 = i by omega, x1, ← hts]⟩)
  exact L0 2 1 (by omega) ⟨by omega, rfl⟩
