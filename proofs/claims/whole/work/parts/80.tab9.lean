/-! TABLE, ninth: a game twice, a game with itself -/
theorem dm2 {x n : Int} (h : 0 ≤ x) (hx : x < n * n) (hn : 0 < n) : (0 ≤ x / n ∧ x / n < n) ∧ 0 ≤ x % n ∧ x % n < n :=
  ⟨⟨Int.ediv_nonneg h (by omega), Int.ediv_lt_of_lt_mul hn hx⟩, Int.emod_nonneg _ (by omega), Int.emod_lt_of_pos _ hn⟩
noncomputable def cmb (c u v : Int) : Int := if c = 0 then zb (u = 1 ∧ v = 1) else zb (u = 1 ∨ v = 1)
theorem cmb_in (c u v : Int) : 0 ≤ cmb c u v ∧ cmb c u v ≤ 1 := by unfold cmb; split <;> exact zb_01
theorem zand01 {u v : Int} (hu : 0 ≤ u ∧ u ≤ 1) (hv : 0 ≤ v ∧ v ≤ 1) : zand u v = cmb 0 u v ∧ ∀ c, c ≠ 0 → zor u v = cmb c u v := by
  have h1 : u = 0 ∨ u = 1 := by omega
  have h2 : v = 0 ∨ v = 1 := by omega
  unfold cmb
  rw [if_pos rfl]
  rcases h1 with e | e <;> subst e <;> rcases h2 with e | e <;> subst e
  · exact ⟨(zb_f (by decide)).symm, fun c hc => by rw [if_neg hc]; exact (zb_f (by decide)).symm⟩
  · exact ⟨(zb_f (by decide)).symm, fun c hc => by rw [if_neg hc]; exact (zb_t (by decide)).symm⟩
  · exact ⟨(zb_f (by decide)).symm, fun c hc => by rw [if_neg hc]; exact (zb_t (by decide)).symm⟩
  · exact ⟨(zb_t (by decide)).symm, fun c hc => by rw [if_neg hc]; exact (zb_t (by decide)).symm⟩
/-- a game twice: what answers a to questions q bring at place i (groups of nr replies) -/
noncomputable def fTn (G : GR) (c nr q a i : Int) : Int := gW G (q / G 0) (i / nr / G 1) * gW G (q % G 0) (i / nr % G 1) * cmb c (gV G (q / G 0) (i / nr / G 1) (a / G 2) (i % nr / G 3)) (gV G (q % G 0) (i / nr % G 1) (a % G 2) (i % nr % G 3))
theorem fTn_in {G : GR} (ho : GOK G) (c nr q a i : Int) : 0 ≤ fTn G c nr q a i ∧ fTn G c nr q a i ≤ 81 := zmul_in (A := 81) (B := 1) (zmul_in (A := 9) (B := 9) (ho.gW _ _) (ho.gW _ _)) (cmb_in _ _ _)
theorem fTn_at {G : GR} {c nr q a o j : Int} (hj : 0 ≤ j ∧ j < nr) : fTn G c nr q a (o * nr + j) = gW G (q / G 0) (o / G 1) * gW G (q % G 0) (o % G 1) * cmb c (gV G (q / G 0) (o / G 1) (a / G 2) (j / G 3)) (gV G (q % G 0) (o % G 1) (a % G 2) (j % G 3)) := by
  unfold fTn
  rw [lin_d hj.1 hj.2, lin_m hj.1 hj.2]
/-- a line is laid from place b up to t -/
def LB (m mm : ZM) (b t : Int) (F : Int → Int) : Prop := (∀ e, e ≠ 46 → mm e = m e) ∧ (∀ x, x < b → mm 46 x = m 46 x) ∧ ∀ i, 0 ≤ i → b + i < t → mm 46 (b + i) = F i
theorem LB_1 {m mm : ZM} {b t i v : Int} {F : Int → Int} (h : LB m mm b t F) (e : t = b + i) (hi : 0 ≤ i) (hv : v = F i) : LB m (zup mm 46 t v) b (t + 1) F := by
  refine ⟨fun c hc => by rw [zup_off hc]; exact h.1 c hc, fun x hx => by rw [zup_at, gup_off (by omega)]; exact h.2.1 x hx, fun j j0 j1 => ?_⟩
  rw [zup_at]
  rcases (show j = i ∨ j < i by omega) with q | q
  · rw [q, ← e, gup_at]; exact hv
  · rw [gup_off (by omega)]; exact h.2.2 j j0 (by omega)
theorem line_1 {mm m1 : ZM} {na w q a : Int} {f : Int → Int → Int → Int} (ha : 0 ≤ a ∧ a < na) (hw : 0 ≤ w) (h0 : ∀ x, 0 ≤ x → x < (q * na + a) * w → mm 46 x = tF na w f x) (h1 : ∀ x, x < (q * na + a) * w → m1 46 x = mm 46 x) (h2 : ∀ i, 0 ≤ i → i < w → m1 46 ((q * na + a) * w + i) = f q a i) : ∀ x, 0 ≤ x → x < (q * na + (a + 1)) * w → m1 46 x = tF na w f x := by
  intro x x0 x1
  rw [← Int.add_assoc, mulS] at x1
  rcases (show x < (q * na + a) * w ∨ (q * na + a) * w ≤ x by omega) with z | z
  · rw [h1 x z]; exact h0 x x0 z
  · have := h2 (x - (q * na + a) * w) (by omega) (by omega)
    rw [show (q * na + a) * w + (x - (q * na + a) * w) = x by omega] at this
    rw [this, ← tF_at (na := na) (w := w) (f := f) ha ⟨show 0 ≤ x - (q * na + a) * w by omega, by omega⟩, show (q * na + a) * w + (x - (q * na + a) * w) = x by omega]
theorem fTn_4 {G : GR} {c nr x z a s y v b e : Int} (hz : 0 ≤ z ∧ z < G 0) (hs : 0 ≤ s ∧ s < G 2) (hv : 0 ≤ v ∧ v < G 1) (he : 0 ≤ e ∧ e < G 3) (hj : 0 ≤ b * G 3 + e ∧ b * G 3 + e < nr) : fTn G c nr (x * G 0 + z) (a * G 2 + s) ((y * G 1 + v) * nr + (b * G 3 + e)) = gW G x y * gW G z v * cmb c (gV G x y a b) (gV G z v s e) := by
  rw [fTn_at hj, lin_d hz.1 hz.2, lin_m hz.1 hz.2, lin_d hs.1 hs.2, lin_m hs.1 hs.2, lin_d hv.1 hv.2, lin_m hv.1 hv.2, lin_d he.1 he.2, lin_m he.1 he.2]
/-- lines are loaded up to the n-th, and t is the place behind them -/
def LT2 (kd : ZK) (m mm : ZM) (nq na ng nr w t n : Int) (f : Int → Int → Int → Int) : Prop := TS kd mm nq na ng nr w ∧ (∀ e, e ≠ 45 → e ≠ 46 → mm e = m e) ∧ t = n * w ∧ ∀ i, 0 ≤ i → i < n * w → mm 46 i = tF na w f i
theorem LT2.to {kd : ZK} {m mm : ZM} {nq na ng nr w t n k : Int} {f : Int → Int → Int → Int} (h : LT2 kd m mm nq na ng nr w t n f) (e : n = k) : LT2 kd m mm nq na ng nr w t k f := by
  subst e
  exact h
theorem c_Table_loadTwiceLine {d : Nat} {kd : ZK} {m : ZM} {g : Int} {G : GR} {nq na ng nr w : Int} {X Z A S b c : Int} (hT : TS kd m nq na ng nr w) (hZ : TZ nq na ng nr w) (hs : nq = G 0 * G 0 ∧ na = G 2 * G 2 ∧ ng = G 1 * G 1 ∧ nr = G 3 * G 3) (hg : CG kd m g G) (ho : GOK G) (ht : 0 < G 0) (hz : 55 < g) (hX : 0 ≤ X ∧ X < G 0) (hY : 0 ≤ Z ∧ Z < G 0) (hA : 0 ≤ A ∧ A < G 2) (hC : 0 ≤ S ∧ S < G 2) (hb : 0 ≤ b ∧ b + w ≤ 25600) : CtV (d + 3) M_Table_loadTwiceLine [(2, 45), (2, g), (0, X), (0, Z), (0, A), (0, S), (0, b), (0, c)] kd m (fun m1 => (∀ e, e ≠ 46 → m1 e = m e) ∧ (∀ x, x < b → m1 46 x = m 46 x) ∧ ∀ i, 0 ≤ i → i < w → m1 46 (b + i) = fTn G c nr (X * G 0 + Z) (A * G 2 + S) i) := by
  have hsz := hZ.1
  have hww := hZ.2.1
  have h0 := ho.1
  have htt := ho.2.1 ht
  have L0 := zfor2 (G 1) (fun (y : Int) (mm : ZM) (t : Int) => Ev (d + 3) M_Table_loadTwiceLine 0 0 7 [(2, 45), (2, g), (0, X), (0, Z), (0, A), (0, S), zJ, (0, c), (0, t), (0, y), zJ, zJ, zJ, zJ, zJ, zJ] [] kd mm (zqV kd (fun m1 => (∀ e, e ≠ 46 → m1 e = m e) ∧ (∀ x, x < b → m1 46 x = m 46 x) ∧ ∀ i, 0 ≤ i → i < w → m1 46 (b + i) = fTn G c nr (X * G 0 + Z) (A * G 2 + S) i))) (fun (y : Int) (mm : ZM) (t : Int) => 0 ≤ y ∧ t = b + y * G 1 * nr ∧ LB m mm b t (fTn G c nr (X * G 0 + Z) (A * G 2 + S))) (by
    intro y mm t hb hI0 KL0
    obtain ⟨hy0, htt0, hL0⟩ := hI0
    have hTm := hT.frame (m' := mm) (hL0.1 45 (by decide))
    have hgm : CG kd mm g G := hg.frame (fun a a1 a2 => hL0.1 a (by omega))
    have t0 := hTm.2.1.1
    have t1 := hTm.2.1.2.1
    have t2 := hTm.2.1.2.2.1
    have t3 := hTm.2.1.2.2.2.1
    have t4 := hTm.2.1.2.2.2.2
    have t5 := hTm.2.2.1.1
    have t6 := hTm.2.2.1.2.1
    have t7 := hTm.2.2.1.2.2.1
    have t8 := hTm.2.2.1.2.2.2.1
    have t9 := hTm.2.2.1.2.2.2.2.1
    have t10 := hTm.2.2.1.2.2.2.2.2
    have k0 := hgm.2.1.1
    have k1 := hgm.2.1.2.1
    have k2 := hgm.2.1.2.2.1
    have k3 := hgm.2.1.2.2.2
    have L1 := zfor2 (G 1) (fun (v : Int) (mm : ZM) (t : Int) => Ev (d + 3) M_Table_loadTwiceLine 0 0 19 [(2, 45), (2, g), (0, X), (0, Z), (0, A), (0, S), zJ, (0, c), (0, t), (0, y), (0, v), zJ, zJ, zJ, zJ, zJ] [] kd mm (zqV kd (fun m1 => (∀ e, e ≠ 46 → m1 e = m e) ∧ (∀ x, x < b → m1 46 x = m 46 x) ∧ ∀ i, 0 ≤ i → i < w → m1 46 (b + i) = fTn G c nr (X * G 0 + Z) (A * G 2 + S) i))) (fun (v : Int) (mm : ZM) (t : Int) => (0 ≤ v ∧ y < G 1) ∧ t = b + (y * G 1 + v) * nr ∧ LB m mm b t (fTn G c nr (X * G 0 + Z) (A * G 2 + S))) (by
      intro v mm t hb hI1 KL1
      obtain ⟨⟨hv0, hyl⟩, htt1, hL1⟩ := hI1
      have hyg := mulL (w := G 1) hyl (by omega)
      have hyn := mulN (y := y) (w := G 1) (by omega) (by omega)
      have hw1 := zmul_in (ho.gW X y) (ho.gW Z v)
      have hTm := hT.frame (m' := mm) (hL1.1 45 (by decide))
      have hgm : CG kd mm g G := hg.frame (fun a a1 a2 => hL1.1 a (by omega))
      have t0 := hTm.2.1.1
      have t1 := hTm.2.1.2.1
      have t2 := hTm.2.1.2.2.1
      have t3 := hTm.2.1.2.2.2.1
      have t4 := hTm.2.1.2.2.2.2
      have t5 := hTm.2.2.1.1
      have t6 := hTm.2.2.1.2.1
      have t7 := hTm.2.2.1.2.2.1
      have t8 := hTm.2.2.1.2.2.2.1
      have t9 := hTm.2.2.1.2.2.2.2.1
      have t10 := hTm.2.2.1.2.2.2.2.2
      have k0 := hgm.2.1.1
      have k1 := hgm.2.1.2.1
      have k2 := hgm.2.1.2.2.1
      have k3 := hgm.2.1.2.2.2
      have L2 := zfor2 (G 3) (fun (u : Int) (mm : ZM) (t : Int) => Ev (d + 3) M_Table_loadTwiceLine 0 0 58 [(2, 45), (2, g), (0, X), (0, Z), (0, A), (0, S), zJ, (0, c), (0, t), (0, y), (0, v), (0, (gW G X y * gW G Z v)), (0, u), zJ, zJ, zJ] [] kd mm (zqV kd (fun m1 => (∀ e, e ≠ 46 → m1 e = m e) ∧ (∀ x, x < b → m1 46 x = m 46 x) ∧ ∀ i, 0 ≤ i → i < w → m1 46 (b + i) = fTn G c nr (X * G 0 + Z) (A * G 2 + S) i))) (fun (u : Int) (mm : ZM) (t : Int) => (0 ≤ u ∧ v < G 1) ∧ t = b + ((y * G 1 + v) * nr + u * G 3) ∧ LB m mm b t (fTn G c nr (X * G 0 + Z) (A * G 2 + S))) (by
        intro u mm t hb hI2 KL2
        obtain ⟨⟨hu0, hvl⟩, htt2, hL2⟩ := hI2
        have hgr := hZ.gr (g := y * G 1 + v) ⟨by omega, by omega⟩
        have hTm := hT.frame (m' := mm) (hL2.1 45 (by decide))
        have hgm : CG kd mm g G := hg.frame (fun a a1 a2 => hL2.1 a (by omega))
        have t0 := hTm.2.1.1
        have t1 := hTm.2.1.2.1
        have t2 := hTm.2.1.2.2.1
        have t3 := hTm.2.1.2.2.2.1
        have t4 := hTm.2.1.2.2.2.2
        have t5 := hTm.2.2.1.1
        have t6 := hTm.2.2.1.2.1
        have t7 := hTm.2.2.1.2.2.1
        have t8 := hTm.2.2.1.2.2.2.1
        have t9 := hTm.2.2.1.2.2.2.2.1
        have t10 := hTm.2.2.1.2.2.2.2.2
        have k0 := hgm.2.1.1
        have k1 := hgm.2.1.2.1
        have k2 := hgm.2.1.2.2.1
        have k3 := hgm.2.1.2.2.2
        have L3 := zfor2 (G 3) (fun (j : Int) (mm : ZM) (t : Int) => Ev (d + 3) M_Table_loadTwiceLine 0 0 70 [(2, 45), (2, g), (0, X), (0, Z), (0, A), (0, S), zJ, (0, c), (0, t), (0, y), (0, v), (0, (gW G X y * gW G Z v)), (0, u), (0, j), zJ, zJ] [] kd mm (zqV kd (fun m1 => (∀ e, e ≠ 46 → m1 e = m e) ∧ (∀ x, x < b → m1 46 x = m 46 x) ∧ ∀ i, 0 ≤ i → i < w → m1 46 (b + i) = fTn G c nr (X * G 0 + Z) (A * G 2 + S) i))) (fun (j : Int) (mm : ZM) (t : Int) => (0 ≤ j ∧ u < G 3) ∧ t = b + ((y * G 1 + v) * nr + (u * G 3 + j)) ∧ LB m mm b t (fTn G c nr (X * G 0 + Z) (A * G 2 + S))) (by
          intro j mm t hb hI3 KL3
          obtain ⟨⟨hj0, hul⟩, htt3, hL3⟩ := hI3
          have hug := mulL (w := G 3) hul (by omega)
          have hun := mulN (y := u) (w := G 3) (by omega) (by omega)
          have hTm := hT.frame (m' := mm) (hL3.1 45 (by decide))
          have hgm : CG kd mm g G := hg.frame (fun a a1 a2 => hL3.1 a (by omega))
          have t0 := hTm.2.1.1
          have t1 := hTm.2.1.2.1
          have t2 := hTm.2.1.2.2.1
          have t3 := hTm.2.1.2.2.2.1
          have t4 := hTm.2.1.2.2.2.2
          have t5 := hTm.2.2.1.1
          have t6 := hTm.2.2.1.2.1
          have t7 := hTm.2.2.1.2.2.1
          have t8 := hTm.2.2.1.2.2.2.1
          have t9 := hTm.2.2.1.2.2.2.2.1
          have t10 := hTm.2.2.1.2.2.2.2.2
          have k0 := hgm.2.1.1
          have k1 := hgm.2.1.2.1
          have k2 := hgm.2.1.2.2.1
          have k3 := hgm.2.1.2.2.2
          refine T_Table_loadTwiceLine_70 ?_
          try simp only [t0, t1, t2, t3, t4, t5, t6, t7, t8, t9, t10]
          try simp only [k0, k1, k2, k3]
          refine ⟨hgm.1.1, ?_⟩
          refine ⟨fun c1 => ?_, fun c1 => ?_⟩
          · skip
            rw [iw_s (x := u + 1) (by omega) (by omega)]
            rw [show j = G 3 by omega] at htt3
            exact KL2 mm t (by omega) ⟨⟨by omega, hvl⟩, by rw [mulS]; exact htt3, hL3⟩
          · skip
            refine ⟨hgm.1.1, ?_⟩
            refine ⟨_, c_Ap_spotOf (by omega) (by omega) (by omega) (by omega), ?_⟩
            rintro _ _ ⟨rfl, rfl⟩
            try simp only [t0, t1, t2, t3, t4, t5, t6, t7, t8, t9, t10]
            try simp only [k0, k1, k2, k3]
            try simp only [k0, k1, k2, k3]
            try simp only [t0, t1, t2, t3, t4, t5, t6, t7, t8, t9, t10]
            refine ⟨(hgm.1.inV (zS_in (by omega) (by omega) (by omega) (by omega))), hgm.1.1, ?_⟩
            refine ⟨_, c_Ap_spotOf (by omega) (by omega) (by omega) (by omega), ?_⟩
            rintro _ _ ⟨rfl, rfl⟩
            try simp only [t0, t1, t2, t3, t4, t5, t6, t7, t8, t9, t10]
            try simp only [k0, k1, k2, k3]
            try simp only [k0, k1, k2, k3]
            try simp only [t0, t1, t2, t3, t4, t5, t6, t7, t8, t9, t10]
            refine ⟨(hgm.1.inV (zS_in (by omega) (by omega) (by omega) (by omega))), hTm.1, ?_⟩
            refine ⟨fun c2 => ?_, fun c2 => ?_⟩
            · skip
              refine ⟨(hTm.i46 (by omega) (by omega)), ?_⟩
              rw [hgm.V0 (x := X) (y := y) (a := A) (b := u) (by omega) (by omega) (by omega) (by omega), hgm.V0 (x := Z) (y := v) (a := S) (b := j) (by omega) (by omega) (by omega) (by omega)]
              have hz01 := zand01 (ho.gV X y A u) (ho.gV Z v S j)
              have hcb := cmb_in c (gV G X y A u) (gV G Z v S j)
              have hpb := zmul_in (A := 81) (B := 1) ⟨hw1.1, by omega⟩ hcb
              have hfv := fTn_4 (G := G) (c := c) (nr := nr) (x := X) (a := A) (y := y) (b := u) hY hC ⟨hv0, hvl⟩ ⟨hj0, show j < G 3 by omega⟩ ⟨by omega, by omega⟩
              rw [hz01.1, show cmb 0 = cmb c by rw [show c = 0 by assumption], iw_s (x := gW G X y * gW G Z v * cmb c (gV G X y A u) (gV G Z v S j)) (by omega) (by omega), iw_s (x := t + 1) (by omega) (by omega), iw_s (x := j + 1) (by omega) (by omega)]
              exact KL3 _ _ (by omega) ⟨⟨by omega, hul⟩, by omega, LB_1 hL3 htt3 (by omega) hfv.symm⟩
            · skip
              refine ⟨(hTm.i46 (by omega) (by omega)), ?_⟩
              rw [hgm.V0 (x := X) (y := y) (a := A) (b := u) (by omega) (by omega) (by omega) (by omega), hgm.V0 (x := Z) (y := v) (a := S) (b := j) (by omega) (by omega) (by omega) (by omega)]
              have hz01 := zand01 (ho.gV X y A u) (ho.gV Z v S j)
              have hcb := cmb_in c (gV G X y A u) (gV G Z v S j)
              have hpb := zmul_in (A := 81) (B := 1) ⟨hw1.1, by omega⟩ hcb
              have hfv := fTn_4 (G := G) (c := c) (nr := nr) (x := X) (a := A) (y := y) (b := u) hY hC ⟨hv0, hvl⟩ ⟨hj0, show j < G 3 by omega⟩ ⟨by omega, by omega⟩
              rw [hz01.2 c (by assumption), iw_s (x := gW G X y * gW G Z v * cmb c (gV G X y A u) (gV G Z v S j)) (by omega) (by omega), iw_s (x := t + 1) (by omega) (by omega), iw_s (x := j + 1) (by omega) (by omega)]
              exact KL3 _ _ (by omega) ⟨⟨by omega, hul⟩, by omega, LB_1 hL3 htt3 (by omega) hfv.symm⟩)
        refine T_Table_loadTwiceLine_58 ?_
        try simp only [t0, t1, t2, t3, t4, t5, t6, t7, t8, t9, t10]
        try simp only [k0, k1, k2, k3]
        refine ⟨hgm.1.1, ?_⟩
        refine ⟨fun c1 => ?_, fun c1 => ?_⟩
        · skip
          rw [iw_s (x := v + 1) (by omega) (by omega)]
          rw [show u = G 3 by omega, ← hs.2.2.2] at htt2
          refine KL1 mm t (by omega) ⟨⟨by omega, hyl⟩, ?_, hL2⟩
          rw [show y * G 1 + (v + 1) = y * G 1 + v + 1 by omega, mulS]
          exact htt2
        · skip
          exact L3 0 mm t (by omega) ⟨⟨by omega, by omega⟩, by rw [Int.add_zero]; exact htt2, hL2⟩)
      refine T_Table_loadTwiceLine_19 ?_
      try simp only [t0, t1, t2, t3, t4, t5, t6, t7, t8, t9, t10]
      try simp only [k0, k1, k2, k3]
      refine ⟨hgm.1.1, ?_⟩
      refine ⟨fun c1 => ?_, fun c1 => ?_⟩
      · skip
        rw [iw_s (x := y + 1) (by omega) (by omega)]
        rw [show v = G 1 by omega] at htt1
        exact KL0 mm t (by omega) ⟨by omega, by rw [mulS]; exact htt1, hL1⟩
      · skip
        refine ⟨hgm.1.1, ?_⟩
        refine ⟨_, c_Ap_cellOf (by omega) (by omega), ?_⟩
        rintro _ _ ⟨rfl, rfl⟩
        try simp only [t0, t1, t2, t3, t4, t5, t6, t7, t8, t9, t10]
        try simp only [k0, k1, k2, k3]
        try simp only [k0, k1, k2, k3]
        refine ⟨(hgm.1.inW (zC_in (by omega) (by omega))), hgm.1.1, ?_⟩
        refine ⟨_, c_Ap_cellOf (by omega) (by omega), ?_⟩
        rintro _ _ ⟨rfl, rfl⟩
        try simp only [t0, t1, t2, t3, t4, t5, t6, t7, t8, t9, t10]
        try simp only [k0, k1, k2, k3]
        try simp only [k0, k1, k2, k3]
        refine ⟨(hgm.1.inW (zC_in (by omega) (by omega))), ?_⟩
        rw [hgm.W0 (x := X) (y := y) (by omega) (by omega), hgm.W0 (x := Z) (y := v) (by omega) (by omega), iw_s (by omega) (by omega)]
        exact L2 0 mm t (by omega) ⟨⟨by omega, by omega⟩, by rw [Int.zero_mul, Int.add_zero]; exact htt1, hL1⟩)
    refine T_Table_loadTwiceLine_7 ?_
    try simp only [t0, t1, t2, t3, t4, t5, t6, t7, t8, t9, t10]
    try simp only [k0, k1, k2, k3]
    refine ⟨hgm.1.1, ?_⟩
    refine ⟨fun c1 => ?_, fun c1 => ?_⟩
    · skip
      rw [show y = G 1 by omega, ← hs.2.2.1, ← hww.1] at htt0
      exact ⟨hL0.1, hL0.2.1, fun i i0 i1 => hL0.2.2 i i0 (by omega)⟩
    · skip
      exact L1 0 mm t (by omega) ⟨⟨by omega, by omega⟩, by rw [Int.add_zero]; exact htt0, hL0⟩)
  refine S_Table_loadTwiceLine ?_
  exact L0 0 m b (by omega) ⟨by omega, by rw [Int.zero_mul, Int.zero_mul, Int.add_zero], fun _ _ => rfl, fun _ _ => rfl, fun i i0 i1 => by omega⟩
theorem c_Table_loadTwice {d : Nat} {kd : ZK} {m : ZM} {g : Int} {G : GR} {c : Int} (hT : TB kd m) (hg : CG kd m g G) (ho : GOK G) (ht : 0 < G 0) (h2 : G 0 ≤ 2) (hz : 55 < g) : CtV (d + 4) M_Table_loadTwice [(2, 45), (2, g), (0, c)] kd m (fun m1 => TL kd m1 (G 0 * G 0) (G 2 * G 2) (G 1 * G 1) (G 3 * G 3) (G 1 * G 1 * (G 3 * G 3)) (fTn G c (G 3 * G 3)) ∧ ∀ e, e ≠ 45 → e ≠ 46 → m1 e = m e) := by
  obtain ⟨b0, b1, b2, b3, b4, hT⟩ := hT
  have h0 := ho.1
  have htt := ho.2.1 ht
  have s0 := zmul_in (a := G 0) (b := G 0) (A := 2) (B := 2) ⟨by omega, h2⟩ ⟨by omega, h2⟩
  have s1 := zmul_in h0.2.1 h0.2.1
  have s2 := zmul_in h0.2.2.1 h0.2.2.1
  have s3 := zmul_in h0.2.2.2 h0.2.2.2
  have p2 := Int.mul_le_mul htt.2.1 htt.2.1 (by decide) (by omega)
  have p3 := Int.mul_le_mul htt.2.2 htt.2.2 (by decide) (by omega)
  generalize hnq : G 0 * G 0 = nq at *
  generalize hna : G 2 * G 2 = na at *
  generalize hng : G 1 * G 1 = ng at *
  generalize hnr : G 3 * G 3 = nr at *
  have sw := zmul_in s1 s3
  generalize hwe : ng * nr = w at *
  have u1 := zmul_in s0 s2
  have u2 := zmul_in (a := nq + 1) (b := w) (A := 5) (B := 400) (by omega) (by omega)
  have u3 := zmul_in u1 (show 0 ≤ w ∧ w ≤ 400 by omega)
  have hZ : TZ nq na ng nr w := ⟨⟨⟨by omega, by omega⟩, ⟨by omega, by omega⟩, ⟨by omega, by omega⟩, by omega, by omega⟩, ⟨hwe.symm, by omega, by omega⟩, by omega, by omega, by omega⟩
  have L0 := zfor2 (G 0) (fun (x : Int) (mm : ZM) (t : Int) => Ev (d + 4) M_Table_loadTwice 0 0 45 [(2, 45), (2, g), (0, c), (0, t), (0, x), zJ, zJ, zJ] [] kd mm (zqV kd (fun m1 => TL kd m1 nq na ng nr w (fTn G c nr) ∧ ∀ e, e ≠ 45 → e ≠ 46 → m1 e = m e))) (fun (x : Int) (mm : ZM) (t : Int) => 0 ≤ x ∧ LT2 kd m mm nq na ng nr w t (x * G 0 * na) (fTn G c nr)) (by
    intro x mm t hb hI0 KL0
    obtain ⟨hx0, hL0⟩ := hI0
    have hTm := hL0.1
    have hF := hL0.2.1
    have hgm : CG kd mm g G := hg.frame (fun a a1 a2 => hF a (by omega) (by omega))
    have t0 := hTm.2.1.1
    have t1 := hTm.2.1.2.1
    have t2 := hTm.2.1.2.2.1
    have t3 := hTm.2.1.2.2.2.1
    have t4 := hTm.2.1.2.2.2.2
    have t5 := hTm.2.2.1.1
    have t6 := hTm.2.2.1.2.1
    have t7 := hTm.2.2.1.2.2.1
    have t8 := hTm.2.2.1.2.2.2.1
    have t9 := hTm.2.2.1.2.2.2.2.1
    have t10 := hTm.2.2.1.2.2.2.2.2
    have k0 := hgm.2.1.1
    have k1 := hgm.2.1.2.1
    have k2 := hgm.2.1.2.2.1
    have k3 := hgm.2.1.2.2.2
    have L1 := zfor2 (G 0) (fun (z : Int) (mm : ZM) (t : Int) => Ev (d + 4) M_Table_loadTwice 0 0 57 [(2, 45), (2, g), (0, c), (0, t), (0, x), (0, z), zJ, zJ] [] kd mm (zqV kd (fun m1 => TL kd m1 nq na ng nr w (fTn G c nr) ∧ ∀ e, e ≠ 45 → e ≠ 46 → m1 e = m e))) (fun (z : Int) (mm : ZM) (t : Int) => (0 ≤ z ∧ x < G 0) ∧ LT2 kd m mm nq na ng nr w t ((x * G 0 + z) * na) (fTn G c nr)) (by
      intro z mm t hb hI1 KL1
      obtain ⟨⟨hz0, hxl⟩, hL1⟩ := hI1
      have hxg := mulL (w := G 0) hxl (by omega)
      have hxn := mulN (y := x) (w := G 0) (by omega) (by omega)
      have hTm := hL1.1
      have hF := hL1.2.1
      have hgm : CG kd mm g G := hg.frame (fun a a1 a2 => hF a (by omega) (by omega))
      have t0 := hTm.2.1.1
      have t1 := hTm.2.1.2.1
      have t2 := hTm.2.1.2.2.1
      have t3 := hTm.2.1.2.2.2.1
      have t4 := hTm.2.1.2.2.2.2
      have t5 := hTm.2.2.1.1
      have t6 := hTm.2.2.1.2.1
      have t7 := hTm.2.2.1.2.2.1
      have t8 := hTm.2.2.1.2.2.2.1
      have t9 := hTm.2.2.1.2.2.2.2.1
      have t10 := hTm.2.2.1.2.2.2.2.2
      have k0 := hgm.2.1.1
      have k1 := hgm.2.1.2.1
      have k2 := hgm.2.1.2.2.1
      have k3 := hgm.2.1.2.2.2
      have L2 := zfor2 (G 2) (fun (a : Int) (mm : ZM) (t : Int) => Ev (d + 4) M_Table_loadTwice 0 0 69 [(2, 45), (2, g), (0, c), (0, t), (0, x), (0, z), (0, a), zJ] [] kd mm (zqV kd (fun m1 => TL kd m1 nq na ng nr w (fTn G c nr) ∧ ∀ e, e ≠ 45 → e ≠ 46 → m1 e = m e))) (fun (a : Int) (mm : ZM) (t : Int) => (0 ≤ a ∧ z < G 0) ∧ LT2 kd m mm nq na ng nr w t ((x * G 0 + z) * na + a * G 2) (fTn G c nr)) (by
        intro a mm t hb hI2 KL2
        obtain ⟨⟨ha0, hzl⟩, hL2⟩ := hI2
        have hTm := hL2.1
        have hF := hL2.2.1
        have hgm : CG kd mm g G := hg.frame (fun a a1 a2 => hF a (by omega) (by omega))
        have t0 := hTm.2.1.1
        have t1 := hTm.2.1.2.1
        have t2 := hTm.2.1.2.2.1
        have t3 := hTm.2.1.2.2.2.1
        have t4 := hTm.2.1.2.2.2.2
        have t5 := hTm.2.2.1.1
        have t6 := hTm.2.2.1.2.1
        have t7 := hTm.2.2.1.2.2.1
        have t8 := hTm.2.2.1.2.2.2.1
        have t9 := hTm.2.2.1.2.2.2.2.1
        have t10 := hTm.2.2.1.2.2.2.2.2
        have k0 := hgm.2.1.1
        have k1 := hgm.2.1.2.1
        have k2 := hgm.2.1.2.2.1
        have k3 := hgm.2.1.2.2.2
        have L3 := zfor2 (G 2) (fun (s : Int) (mm : ZM) (t : Int) => Ev (d + 4) M_Table_loadTwice 0 0 81 [(2, 45), (2, g), (0, c), (0, t), (0, x), (0, z), (0, a), (0, s)] [] kd mm (zqV kd (fun m1 => TL kd m1 nq na ng nr w (fTn G c nr) ∧ ∀ e, e ≠ 45 → e ≠ 46 → m1 e = m e))) (fun (s : Int) (mm : ZM) (t : Int) => (0 ≤ s ∧ a < G 2) ∧ LT2 kd m mm nq na ng nr w t ((x * G 0 + z) * na + (a * G 2 + s)) (fTn G c nr)) (by
          intro s mm t hb hI3 KL3
          obtain ⟨⟨hs0, hal⟩, hL3⟩ := hI3
          have hag := mulL (w := G 2) hal (by omega)
          have han := mulN (y := a) (w := G 2) (by omega) (by omega)
          have hTm := hL3.1
          have hF := hL3.2.1
          have hgm : CG kd mm g G := hg.frame (fun a a1 a2 => hF a (by omega) (by omega))
          have t0 := hTm.2.1.1
          have t1 := hTm.2.1.2.1
          have t2 := hTm.2.1.2.2.1
          have t3 := hTm.2.1.2.2.2.1
          have t4 := hTm.2.1.2.2.2.2
          have t5 := hTm.2.2.1.1
          have t6 := hTm.2.2.1.2.1
          have t7 := hTm.2.2.1.2.2.1
          have t8 := hTm.2.2.1.2.2.2.1
          have t9 := hTm.2.2.1.2.2.2.2.1
          have t10 := hTm.2.2.1.2.2.2.2.2
          have k0 := hgm.2.1.1
          have k1 := hgm.2.1.2.1
          have k2 := hgm.2.1.2.2.1
          have k3 := hgm.2.1.2.2.2
          refine T_Table_loadTwice_81 ?_
          try simp only [t0, t1, t2, t3, t4, t5, t6, t7, t8, t9, t10]
          try simp only [k0, k1, k2, k3]
          refine ⟨hgm.1.1, ?_⟩
          refine ⟨fun c1 => ?_, fun c1 => ?_⟩
          · skip
            rw [iw_s (x := a + 1) (by omega) (by omega)]
            exact KL2 mm t (by omega) ⟨⟨by omega, hzl⟩, hL3.to (by rw [mulS, show s = G 2 by omega])⟩
          · skip
            refine ⟨hTm.1, _, c_Table_loadTwiceLine hTm hZ ⟨hnq.symm, hna.symm, hng.symm, hnr.symm⟩ hgm ho ht hz ⟨hx0, hxl⟩ ⟨hz0, hzl⟩ ⟨ha0, hal⟩ ⟨hs0, by omega⟩ (by have hix := hZ.ix (q := x * G 0 + z) (a := a * G 2 + s) ⟨by omega, by omega⟩ ⟨by omega, by omega⟩; have htt3 := hL3.2.2.1; omega), ?_⟩
            rintro m3 ⟨hA, hB, hC⟩
            refine ⟨hTm.1, ?_⟩
            have hix := hZ.ix (q := x * G 0 + z) (a := a * G 2 + s) ⟨by omega, by omega⟩ ⟨by omega, by omega⟩
            have htt3 := hL3.2.2.1
            have hls := mulS ((x * G 0 + z) * na + (a * G 2 + s)) w
            rw [hA 45 (by decide), t4, iw_s (x := t + w) (by omega) (by omega), iw_s (x := s + 1) (by omega) (by omega)]
            rw [htt3] at hB hC
            have hln := line_1 (na := na) (w := w) (q := x * G 0 + z) (a := a * G 2 + s) (f := fTn G c nr) ⟨by omega, by omega⟩ (by omega) hL3.2.2.2 hB hC
            exact KL3 _ _ (by omega) ⟨⟨by omega, hal⟩, hTm.frame (hA 45 (by decide)), fun e e1 e2 => by rw [hA e e2]; exact hF e e1 e2, by rw [show (x * G 0 + z) * na + (a * G 2 + (s + 1)) = (x * G 0 + z) * na + (a * G 2 + s) + 1 by omega]; omega, by rw [show a * G 2 + (s + 1) = a * G 2 + s + 1 by omega]; exact hln⟩)
        refine T_Table_loadTwice_69 ?_
        try simp only [t0, t1, t2, t3, t4, t5, t6, t7, t8, t9, t10]
        try simp only [k0, k1, k2, k3]
        refine ⟨hgm.1.1, ?_⟩
        refine ⟨fun c1 => ?_, fun c1 => ?_⟩
        · skip
          rw [iw_s (x := z + 1) (by omega) (by omega)]
          exact KL1 mm t (by omega) ⟨⟨by omega, hxl⟩, hL2.to (by rw [show x * G 0 + (z + 1) = x * G 0 + z + 1 by omega, mulS, show a = G 2 by omega, hna])⟩
        · skip
          exact L3 0 mm t (by omega) ⟨⟨by omega, by omega⟩, hL2.to (by rw [Int.add_zero])⟩)
      refine T_Table_loadTwice_57 ?_
      try simp only [t0, t1, t2, t3, t4, t5, t6, t7, t8, t9, t10]
      try simp only [k0, k1, k2, k3]
      refine ⟨hgm.1.1, ?_⟩
      refine ⟨fun c1 => ?_, fun c1 => ?_⟩
      · skip
        rw [iw_s (x := x + 1) (by omega) (by omega)]
        exact KL0 mm t (by omega) ⟨by omega, hL1.to (by rw [mulS, show z = G 0 by omega])⟩
      · skip
        exact L2 0 mm t (by omega) ⟨⟨by omega, by omega⟩, hL1.to (by rw [Int.zero_mul, Int.add_zero])⟩)
    refine T_Table_loadTwice_45 ?_
    try simp only [t0, t1, t2, t3, t4, t5, t6, t7, t8, t9, t10]
    try simp only [k0, k1, k2, k3]
    refine ⟨hgm.1.1, ?_⟩
    refine ⟨fun c1 => ?_, fun c1 => ?_⟩
    · skip
      have hX := hL0.2.2.2
      rw [show x = G 0 by omega, hnq] at hX
      exact ⟨⟨hTm, hZ, hX, fun q a i _ _ _ _ _ _ => by have := fTn_in ho c nr q a i; omega⟩, hF⟩
    · skip
      exact L1 0 mm t (by omega) ⟨⟨by omega, by omega⟩, hL0.to (by rw [Int.add_zero])⟩)
  have hgm := hg
  have k0 := hgm.2.1.1
  have k1 := hgm.2.1.2.1
  have k2 := hgm.2.1.2.2.1
  have k3 := hgm.2.1.2.2.2
  refine S_Table_loadTwice ?_
  try simp only [k0, k1, k2, k3]
  rw [hnq, hna, hng, hnr, iw_s (x := nq) (by omega) (by omega), iw_s (x := na) (by omega) (by omega), iw_s (x := ng) (by omega) (by omega), iw_s (x := nr) (by omega) (by omega)]
  refine ⟨hgm.1.1, hgm.1.1, hgm.1.1, hgm.1.1, hgm.1.1, hgm.1.1, hgm.1.1, hgm.1.1, ?_⟩
  refine ⟨hT.1, _, c_Table_setSizes hT (by omega), ?_⟩
  rintro m3 ⟨hA, hB⟩
  rw [hwe] at hA
  exact L0 0 _ 0 (by omega) ⟨by omega, hA, fun e e1 _ => hB e e1, by rw [Int.zero_mul, Int.zero_mul, Int.zero_mul], fun x x0 x1 => by rw [Int.zero_mul, Int.zero_mul, Int.zero_mul] at x1; omega⟩
