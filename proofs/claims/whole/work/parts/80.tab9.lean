/-! TABLE, ninth: a game twice, a game with itself -/
theorem dm2 {x n : Int} (h : 0 ≤ x) (hx : x < n * n) (hn : 0 < n) : (0 ≤ x / n ∧ x / n < n) ∧ 0 ≤ x % n ∧ x % n < n :=
  ⟨⟨Int.ediv_nonneg h (by omega), Int.ediv_lt_of_lt_mul hn hx⟩, Int.emod_nonneg _ (by omega), Int.emod_lt_of_pos _ hn⟩
noncomputable def cmb (c u v : Int) : Int := if c = 0 then zb (u = 1 ∧ v = 1) else zb (u = 1 ∨ v = 1)
theorem cmb_in (c u v : Int) : 0 ≤ cmb c u v ∧ cmb c u v ≤ 1 := by unfold cmb; split <;> exact zb_01
theorem zand01 {u v : Int} (hu : 0 ≤ u ∧ u ≤ 1) (hv : 0 ≤ v ∧ v ≤ 1) : zand u v = cmb 0 u v ∧ ∀ c, c ≠ 0 → zor u v = cmb c u v := by
  have h1 : u = 0 ∨ u = 1 := by omega
  have h2 : v = 0 ∨ v = 1 := by omega
  unfold cmb
  rw [if_pos rfl]
  rcases h1 with e | e <;> subst e <;> rcases h2 with e | e <;> subst e
  · exact ⟨(zb_f (by decide)).symm, fun c hc => by rw [if_neg hc]; exact (zb_f (by decide)).symm⟩
  · exact ⟨(zb_f (by decide)).symm, fun c hc => by rw [if_neg hc]; exact (zb_t (by decide)).symm⟩
  · exact ⟨(zb_f (by decide)).symm, fun c hc => by rw [if_neg hc]; exact (zb_t (by decide)).symm⟩
  · exact ⟨(zb_t (by decide)).symm, fun c hc => by rw [if_neg hc]; exact (zb_t (by decide)).symm⟩
/-- a game twice: what answers a to questions q bring at place i (groups of nr replies) -/
noncomputable def fTn (G : GR) (c nr q a i : Int) : Int := gW G (q / G 0) (i / nr / G 1) * gW G (q % G 0) (i / nr % G 1) * cmb c (gV G (q / G 0) (i / nr / G 1) (a / G 2) (i % nr / G 3)) (gV G (q % G 0) (i / nr % G 1) (a % G 2) (i % nr % G 3))
theorem fTn_in {G : GR} (ho : GOK G) (c nr q a i : Int) : 0 ≤ fTn G c nr q a i ∧ fTn G c nr q a i ≤ 81 := zmul_in (A := 81) (B := 1) (zmul_in (A := 9) (B := 9) (ho.gW _ _) (ho.gW _ _)) (cmb_in _ _ _)
theorem fTn_at {G : GR} {c nr q a o j : Int} (hj : 0 ≤ j ∧ j < nr) : fTn G c nr q a (o * nr + j) = gW G (q / G 0) (o / G 1) * gW G (q % G 0) (o % G 1) * cmb c (gV G (q / G 0) (o / G 1) (a / G 2) (j / G 3)) (gV G (q % G 0) (o % G 1) (a % G 2) (j % G 3)) := by
  unfold fTn
  rw [lin_d hj.1 hj.2, lin_m hj.1 hj.2]
/-- a line is laid from place b up to t -/
def LB (m mm : ZM) (b t : Int) (F : Int → Int) : Prop := (∀ e, e ≠ 46 → mm e = m e) ∧ (∀ x, x < b → mm 46 x = m 46 x) ∧ ∀ i, 0 ≤ i → b + i < t → mm 46 (b + i) = F i
theorem LB_1 {m mm : ZM} {b t i v : Int} {F : Int → Int} (h : LB m mm b t F) (e : t = b + i) (hi : 0 ≤ i) (hv : v = F i) : LB m (zup mm 46 t v) b (t + 1) F := by
  refine ⟨fun c hc => by rw [zup_off hc]; exact h.1 c hc, fun x hx => by rw [zup_at, gup_off (by omega)]; exact h.2.1 x hx, fun j j0 j1 => ?_⟩
  rw [zup_at]
  rcases (show j = i ∨ j < i by omega) with q | q
  · rw [q, ← e, gup_at]; exact hv
  · rw [gup_off (by omega)]; exact h.2.2 j j0 (by omega)
theorem line_1 {mm m1 : ZM} {na w q a : Int} {f : Int → Int → Int → Int} (ha : 0 ≤ a ∧ a < na) (hw : 0 ≤ w) (h0 : ∀ x, 0 ≤ x → x < (q * na + a) * w → mm 46 x = tF na w f x) (h1 : ∀ x, x < (q * na + a) * w → m1 46 x = mm 46 x) (h2 : ∀ i, 0 ≤ i → i < w → m1 46 ((q * na + a) * w + i) = f q a i) : ∀ x, 0 ≤ x → x < (q * na + (a + 1)) * w → m1 46 x = tF na w f x := by
  intro x x0 x1
  rw [← Int.add_assoc, mulS] at x1
  rcases (show x < (q * na + a) * w ∨ (q * na + a) * w ≤ x by omega) with z | z
  · rw [h1 x z]; exact h0 x x0 z
  · have := h2 (x - (q * na + a) * w) (by omega) (by omega)
    rw [show (q * na + a) * w + (x - (q * na + a) * w) = x by omega] at this
    rw [this, ← tF_at (na := na) (w := w) (f := f) ha ⟨show 0 ≤ x - (q * na + a) * w by omega, by omega⟩, show (q * na + a) * w + (x - (q * na + a) * w) = x by omega]
theorem c_Table_loadTwiceLine {d : Nat} {kd : ZK} {m : ZM} {g : Int} {G : GR} {nq na ng nr w : Int} {q a c : Int} (hT : TS kd m nq na ng nr w) (hZ : TZ nq na ng nr w) (hs : nq = G 0 * G 0 ∧ na = G 2 * G 2 ∧ ng = G 1 * G 1 ∧ nr = G 3 * G 3) (hg : CG kd m g G) (ho : GOK G) (ht : 0 < G 0) (hz : 55 < g) (hq : 0 ≤ q ∧ q < nq) (ha : 0 ≤ a ∧ a < na) : CtV (d + 3) M_Table_loadTwiceLine [(2, 45), (2, g), (0, q), (0, a), (0, c)] kd m (fun m1 => (∀ e, e ≠ 46 → m1 e = m e) ∧ (∀ x, x < (q * na + a) * w → m1 46 x = m 46 x) ∧ ∀ i, 0 ≤ i → i < w → m1 46 ((q * na + a) * w + i) = fTn G c nr q a i) := by
  have hsz := hZ.1
  have hww := hZ.2.1
  have h0 := ho.1
  have htt := ho.2.1 ht
  have hix := hZ.ix hq ha
  have eq2 := dm2 hq.1 (by rw [← hs.1]; exact hq.2) ht
  have ea2 := dm2 ha.1 (by rw [← hs.2.1]; exact ha.2) (by omega)
  generalize hX : q / G 0 = X at *
  generalize hY : q % G 0 = Z at *
  generalize hA : a / G 2 = A at *
  generalize hC : a % G 2 = C at *
  generalize hb : (q * na + a) * w = b at *
  have hFv : ∀ o j, 0 ≤ j → j < nr → fTn G c nr q a (o * nr + j) = gW G X (o / G 1) * gW G Z (o % G 1) * cmb c (gV G X (o / G 1) A (j / G 3)) (gV G Z (o % G 1) C (j % G 3)) := fun o j j0 j1 => by
    rw [fTn_at ⟨j0, j1⟩, hX, hY, hA, hC]
  have L0 := zfor2 (ng) (fun (o : Int) (mm : ZM) (t : Int) => Ev (d + 3) M_Table_loadTwiceLine 0 0 50 [(2, 45), (2, g), zJ, zJ, (0, c), (0, X), (0, Z), (0, A), (0, C), (0, t), (0, o), zJ, zJ, zJ, zJ, zJ, zJ] [] kd mm (zqV kd (fun m1 => (∀ e, e ≠ 46 → m1 e = m e) ∧ (∀ x, x < b → m1 46 x = m 46 x) ∧ ∀ i, 0 ≤ i → i < w → m1 46 (b + i) = fTn G c nr q a i))) (fun (o : Int) (mm : ZM) (t : Int) => 0 ≤ o ∧ t = b + o * nr ∧ LB m mm b t (fTn G c nr q a)) (by
    intro o mm t hb hI0 KL0
    obtain ⟨ho0, htt1, hL0⟩ := hI0
    have hgr : o < ng → 0 ≤ o * nr ∧ o * nr + nr ≤ w := fun h => hZ.gr ⟨ho0, h⟩
    have hTm := hT.frame (m' := mm) (hL0.1 45 (by decide))
    have hgm : CG kd mm g G := hg.frame (fun a a1 a2 => hL0.1 a (by omega))
    have t0 := hTm.2.1.1
    have t1 := hTm.2.1.2.1
    have t2 := hTm.2.1.2.2.1
    have t3 := hTm.2.1.2.2.2.1
    have t4 := hTm.2.1.2.2.2.2
    have t5 := hTm.2.2.1.1
    have t6 := hTm.2.2.1.2.1
    have t7 := hTm.2.2.1.2.2.1
    have t8 := hTm.2.2.1.2.2.2.1
    have t9 := hTm.2.2.1.2.2.2.2.1
    have t10 := hTm.2.2.1.2.2.2.2.2
    have k0 := hgm.2.1.1
    have k1 := hgm.2.1.2.1
    have k2 := hgm.2.1.2.2.1
    have k3 := hgm.2.1.2.2.2
    have eo : o < ng → (0 ≤ o / G 1 ∧ o / G 1 < G 1) ∧ 0 ≤ o % G 1 ∧ o % G 1 < G 1 := fun h => dm2 ho0 (by rw [← hs.2.2.1]; exact h) (by omega)
    have ed : iw (Int.tdiv o (G 1)) = o / G 1 := by
      rw [Int.tdiv_eq_ediv_of_nonneg ho0]
      have := Int.ediv_le_self (G 1) ho0
      have := Int.ediv_nonneg ho0 (show 0 ≤ G 1 by omega)
      exact iw_s (by omega) (by omega)
    have em : Int.tmod o (G 1) = o % G 1 := Int.tmod_eq_emod_of_nonneg ho0
    have L1 := zfor2 (nr) (fun (j : Int) (mm : ZM) (t : Int) => Ev (d + 3) M_Table_loadTwiceLine 0 0 109 [(2, 45), (2, g), zJ, zJ, (0, c), (0, X), (0, Z), (0, A), (0, C), (0, t), (0, o), (0, (o / G 1)), (0, (o % G 1)), (0, (gW G X (o / G 1) * gW G Z (o % G 1))), (0, j), zJ, zJ] [] kd mm (zqV kd (fun m1 => (∀ e, e ≠ 46 → m1 e = m e) ∧ (∀ x, x < b → m1 46 x = m 46 x) ∧ ∀ i, 0 ≤ i → i < w → m1 46 (b + i) = fTn G c nr q a i))) (fun (j : Int) (mm : ZM) (t : Int) => (0 ≤ j ∧ o < ng) ∧ t = b + (o * nr + j) ∧ LB m mm b t (fTn G c nr q a)) (by
      intro j mm t hb hI1 KL1
      obtain ⟨⟨hj0, hol⟩, htt2, hL1⟩ := hI1
      have hgr2 := hgr hol
      have eo2 := eo hol
      have hTm := hT.frame (m' := mm) (hL1.1 45 (by decide))
      have hgm : CG kd mm g G := hg.frame (fun a a1 a2 => hL1.1 a (by omega))
      have t0 := hTm.2.1.1
      have t1 := hTm.2.1.2.1
      have t2 := hTm.2.1.2.2.1
      have t3 := hTm.2.1.2.2.2.1
      have t4 := hTm.2.1.2.2.2.2
      have t5 := hTm.2.2.1.1
      have t6 := hTm.2.2.1.2.1
      have t7 := hTm.2.2.1.2.2.1
      have t8 := hTm.2.2.1.2.2.2.1
      have t9 := hTm.2.2.1.2.2.2.2.1
      have t10 := hTm.2.2.1.2.2.2.2.2
      have k0 := hgm.2.1.1
      have k1 := hgm.2.1.2.1
      have k2 := hgm.2.1.2.2.1
      have k3 := hgm.2.1.2.2.2
      have ej : j < nr → (0 ≤ j / G 3 ∧ j / G 3 < G 3) ∧ 0 ≤ j % G 3 ∧ j % G 3 < G 3 := fun h => dm2 hj0 (by rw [← hs.2.2.2]; exact h) (by omega)
      have ed2 : iw (Int.tdiv j (G 3)) = j / G 3 := by
        rw [Int.tdiv_eq_ediv_of_nonneg hj0]
        have := Int.ediv_le_self (G 3) hj0
        have := Int.ediv_nonneg hj0 (show 0 ≤ G 3 by omega)
        exact iw_s (by omega) (by omega)
      have em2 : Int.tmod j (G 3) = j % G 3 := Int.tmod_eq_emod_of_nonneg hj0
      have hw1 := zmul_in (ho.gW X (o / G 1)) (ho.gW Z (o % G 1))
      refine T_Table_loadTwiceLine_109 ?_
      try simp only [t0, t1, t2, t3, t4, t5, t6, t7, t8, t9, t10]
      try simp only [k0, k1, k2, k3]
      try simp only [ed2, em2]
      refine ⟨hTm.1, ?_⟩
      refine ⟨fun c1 => ?_, fun c1 => ?_⟩
      · skip
        rw [iw_s (x := o + 1) (by omega) (by omega)]
        exact KL0 mm t (by omega) ⟨by omega, by rw [mulS]; omega, hL1⟩
      · skip
        refine ⟨hgm.1.1, hgm.1.1, (by omega), ?_⟩
        refine ⟨_, c_Ap_spotOf (by omega) (by omega) (by omega) (by have := ej (by omega); omega), ?_⟩
        rintro _ _ ⟨rfl, rfl⟩
        try simp only [k0, k1, k2, k3]
        try simp only [t0, t1, t2, t3, t4, t5, t6, t7, t8, t9, t10]
        try simp only [em2]
        have ej2 := ej (by omega)
        refine ⟨(hgm.1.inV (zS_in (by omega) (by omega) (by omega) (by omega))), hgm.1.1, hgm.1.1, (by omega), ?_⟩
        refine ⟨_, c_Ap_spotOf (by omega) (by omega) (by omega) (by have := ej (by omega); omega), ?_⟩
        rintro _ _ ⟨rfl, rfl⟩
        try simp only [k0, k1, k2, k3]
        try simp only [t0, t1, t2, t3, t4, t5, t6, t7, t8, t9, t10]
        try simp only [em2]
        have ej2 := ej (by omega)
        refine ⟨(hgm.1.inV (zS_in (by omega) (by omega) (by omega) (by omega))), hTm.1, ?_⟩
        refine ⟨fun c2 => ?_, fun c2 => ?_⟩
        · skip
          refine ⟨(hTm.i46 (by omega) (by omega)), ?_⟩
          rw [hgm.V0 (x := X) (y := o / G 1) (a := A) (b := j / G 3) (by omega) (by omega) (by omega) (by omega), hgm.V0 (x := Z) (y := o % G 1) (a := C) (b := j % G 3) (by omega) (by omega) (by omega) (by omega)]
          have hz01 := zand01 (ho.gV X (o / G 1) A (j / G 3)) (ho.gV Z (o % G 1) C (j % G 3))
          have hcb := cmb_in c (gV G X (o / G 1) A (j / G 3)) (gV G Z (o % G 1) C (j % G 3))
          have hpb := zmul_in (A := 81) (B := 1) ⟨hw1.1, by omega⟩ hcb
          have hfv := hFv o j hj0 (by omega)
          rw [hz01.1, show cmb 0 = cmb c by rw [show c = 0 by assumption], iw_s (x := gW G X (o / G 1) * gW G Z (o % G 1) * cmb c (gV G X (o / G 1) A (j / G 3)) (gV G Z (o % G 1) C (j % G 3))) (by omega) (by omega), iw_s (x := t + 1) (by omega) (by omega), iw_s (x := j + 1) (by omega) (by omega)]
          exact KL1 _ _ (by omega) ⟨⟨by omega, hol⟩, by omega, LB_1 hL1 htt2 (by omega) hfv.symm⟩
        · skip
          refine ⟨(hTm.i46 (by omega) (by omega)), ?_⟩
          rw [hgm.V0 (x := X) (y := o / G 1) (a := A) (b := j / G 3) (by omega) (by omega) (by omega) (by omega), hgm.V0 (x := Z) (y := o % G 1) (a := C) (b := j % G 3) (by omega) (by omega) (by omega) (by omega)]
          have hz01 := zand01 (ho.gV X (o / G 1) A (j / G 3)) (ho.gV Z (o % G 1) C (j % G 3))
          have hcb := cmb_in c (gV G X (o / G 1) A (j / G 3)) (gV G Z (o % G 1) C (j % G 3))
          have hpb := zmul_in (A := 81) (B := 1) ⟨hw1.1, by omega⟩ hcb
          have hfv := hFv o j hj0 (by omega)
          rw [hz01.2 c (by assumption), iw_s (x := gW G X (o / G 1) * gW G Z (o % G 1) * cmb c (gV G X (o / G 1) A (j / G 3)) (gV G Z (o % G 1) C (j % G 3))) (by omega) (by omega), iw_s (x := t + 1) (by omega) (by omega), iw_s (x := j + 1) (by omega) (by omega)]
          exact KL1 _ _ (by omega) ⟨⟨by omega, hol⟩, by omega, LB_1 hL1 htt2 (by omega) hfv.symm⟩)
    refine T_Table_loadTwiceLine_50 ?_
    try simp only [t0, t1, t2, t3, t4, t5, t6, t7, t8, t9, t10]
    try simp only [k0, k1, k2, k3]
    try simp only [ed, em]
    refine ⟨hTm.1, ?_⟩
    refine ⟨fun c1 => ?_, fun c1 => ?_⟩
    · skip
      rw [show o = ng by omega, ← hww.1] at htt1
      exact ⟨hL0.1, hL0.2.1, fun i i0 i1 => hL0.2.2 i i0 (by omega)⟩
    · skip
      refine ⟨hgm.1.1, (by omega), hgm.1.1, (by omega), hgm.1.1, ?_⟩
      refine ⟨_, c_Ap_cellOf (by omega) (by have := eo (by omega); omega), ?_⟩
      rintro _ _ ⟨rfl, rfl⟩
      try simp only [k0, k1, k2, k3]
      try simp only [em]
      have eo2 := eo (by omega)
      refine ⟨(hgm.1.inW (zC_in (by omega) (by omega))), hgm.1.1, ?_⟩
      refine ⟨_, c_Ap_cellOf (by omega) (by have := eo (by omega); omega), ?_⟩
      rintro _ _ ⟨rfl, rfl⟩
      try simp only [k0, k1, k2, k3]
      try simp only [em]
      have eo2 := eo (by omega)
      refine ⟨(hgm.1.inW (zC_in (by omega) (by omega))), ?_⟩
      have hw1 := zmul_in (ho.gW X (o / G 1)) (ho.gW Z (o % G 1))
      rw [hgm.W0 (x := X) (y := o / G 1) (by omega) (by omega), hgm.W0 (x := Z) (y := o % G 1) (by omega) (by omega), iw_s (by omega) (by omega)]
      exact L1 0 mm t (by omega) ⟨⟨by omega, by omega⟩, by omega, hL0⟩)
  have hTm := hT
  have hgm := hg
  have t0 := hTm.2.1.1
  have t1 := hTm.2.1.2.1
  have t2 := hTm.2.1.2.2.1
  have t3 := hTm.2.1.2.2.2.1
  have t4 := hTm.2.1.2.2.2.2
  have t5 := hTm.2.2.1.1
  have t6 := hTm.2.2.1.2.1
  have t7 := hTm.2.2.1.2.2.1
  have t8 := hTm.2.2.1.2.2.2.1
  have t9 := hTm.2.2.1.2.2.2.2.1
  have t10 := hTm.2.2.1.2.2.2.2.2
  have k0 := hgm.2.1.1
  have k1 := hgm.2.1.2.1
  have k2 := hgm.2.1.2.2.1
  have k3 := hgm.2.1.2.2.2
  refine S_Table_loadTwiceLine ?_
  try simp only [t0, t1, t2, t3, t4, t5, t6, t7, t8, t9, t10]
  try simp only [k0, k1, k2, k3]
  refine ⟨hgm.1.1, (by omega), hgm.1.1, (by omega), hgm.1.1, (by omega), hgm.1.1, (by omega), hTm.1, hTm.1, ?_⟩
  rw [Int.tdiv_eq_ediv_of_nonneg hq.1, Int.tdiv_eq_ediv_of_nonneg ha.1, Int.tmod_eq_emod_of_nonneg hq.1, Int.tmod_eq_emod_of_nonneg ha.1, hX, hY, hA, hC, iw_s (x := X) (by omega) (by omega), iw_s (x := A) (by omega) (by omega), iw_s (x := q * na) (by omega) (by omega), iw_s (x := q * na + a) (by omega) (by omega), hb, iw_s (x := b) (by omega) (by omega)]
  exact L0 0 m b (by omega) ⟨by omega, by rw [Int.zero_mul]; omega, fun _ _ => rfl, fun _ _ => rfl, fun i i0 i1 => by omega⟩
theorem c_Table_loadTwice {d : Nat} {kd : ZK} {m : ZM} {g : Int} {G : GR} {c : Int} (hT : TB kd m) (hg : CG kd m g G) (ho : GOK G) (ht : 0 < G 0) (h2 : G 0 ≤ 2) (hz : 55 < g) : CtV (d + 4) M_Table_loadTwice [(2, 45), (2, g), (0, c)] kd m (fun m1 => TL kd m1 (G 0 * G 0) (G 2 * G 2) (G 1 * G 1) (G 3 * G 3) (G 1 * G 1 * (G 3 * G 3)) (fTn G c (G 3 * G 3)) ∧ ∀ e, e ≠ 45 → e ≠ 46 → m1 e = m e) := by
  obtain ⟨b0, b1, b2, b3, b4, hT⟩ := hT
  have h0 := ho.1
  have htt := ho.2.1 ht
  have s0 := zmul_in (a := G 0) (b := G 0) (A := 2) (B := 2) ⟨by omega, h2⟩ ⟨by omega, h2⟩
  have s1 := zmul_in h0.2.1 h0.2.1
  have s2 := zmul_in h0.2.2.1 h0.2.2.1
  have s3 := zmul_in h0.2.2.2 h0.2.2.2
  have p2 := Int.mul_le_mul htt.2.1 htt.2.1 (by decide) (by omega)
  have p3 := Int.mul_le_mul htt.2.2 htt.2.2 (by decide) (by omega)
  generalize hnq : G 0 * G 0 = nq at *
  generalize hna : G 2 * G 2 = na at *
  generalize hng : G 1 * G 1 = ng at *
  generalize hnr : G 3 * G 3 = nr at *
  have sw := zmul_in s1 s3
  generalize hwe : ng * nr = w at *
  have u1 := zmul_in s0 s2
  have u2 := zmul_in (a := nq + 1) (b := w) (A := 5) (B := 400) (by omega) (by omega)
  have u3 := zmul_in u1 (show 0 ≤ w ∧ w ≤ 400 by omega)
  have hZ : TZ nq na ng nr w := ⟨⟨⟨by omega, by omega⟩, ⟨by omega, by omega⟩, ⟨by omega, by omega⟩, by omega, by omega⟩, ⟨hwe.symm, by omega, by omega⟩, by omega, by omega, by omega⟩
  have L0 := zfor1 (nq) (fun (q : Int) (mm : ZM) => Ev (d + 4) M_Table_loadTwice 0 0 42 [(2, 45), (2, g), (0, c), (0, q), zJ] [] kd mm (zqV kd (fun m1 => TL kd m1 nq na ng nr w (fTn G c nr) ∧ ∀ e, e ≠ 45 → e ≠ 46 → m1 e = m e))) (fun (q : Int) (mm : ZM) => 0 ≤ q ∧ TS kd mm nq na ng nr w ∧ (∀ e, e ≠ 45 → e ≠ 46 → mm e = m e) ∧ ∀ x, 0 ≤ x → x < q * na * w → mm 46 x = tF na w (fTn G c nr) x) (by
    intro q mm hb hI0 KL0
    obtain ⟨hq0, hTm, hF, hX⟩ := hI0
    have t0 := hTm.2.1.1
    have t1 := hTm.2.1.2.1
    have t2 := hTm.2.1.2.2.1
    have t3 := hTm.2.1.2.2.2.1
    have t4 := hTm.2.1.2.2.2.2
    have t5 := hTm.2.2.1.1
    have t6 := hTm.2.2.1.2.1
    have t7 := hTm.2.2.1.2.2.1
    have t8 := hTm.2.2.1.2.2.2.1
    have t9 := hTm.2.2.1.2.2.2.2.1
    have t10 := hTm.2.2.1.2.2.2.2.2
    have L1 := zfor1 (na) (fun (a : Int) (mm : ZM) => Ev (d + 4) M_Table_loadTwice 0 0 53 [(2, 45), (2, g), (0, c), (0, q), (0, a)] [] kd mm (zqV kd (fun m1 => TL kd m1 nq na ng nr w (fTn G c nr) ∧ ∀ e, e ≠ 45 → e ≠ 46 → m1 e = m e))) (fun (a : Int) (mm : ZM) => (0 ≤ a ∧ q < nq) ∧ TS kd mm nq na ng nr w ∧ (∀ e, e ≠ 45 → e ≠ 46 → mm e = m e) ∧ ∀ x, 0 ≤ x → x < (q * na + a) * w → mm 46 x = tF na w (fTn G c nr) x) (by
      intro a mm hb hI1 KL1
      obtain ⟨⟨ha0, hql⟩, hTm, hF, hX⟩ := hI1
      have hgm : CG kd mm g G := hg.frame (fun a a1 a2 => hF a (by omega) (by omega))
      have t0 := hTm.2.1.1
      have t1 := hTm.2.1.2.1
      have t2 := hTm.2.1.2.2.1
      have t3 := hTm.2.1.2.2.2.1
      have t4 := hTm.2.1.2.2.2.2
      have t5 := hTm.2.2.1.1
      have t6 := hTm.2.2.1.2.1
      have t7 := hTm.2.2.1.2.2.1
      have t8 := hTm.2.2.1.2.2.2.1
      have t9 := hTm.2.2.1.2.2.2.2.1
      have t10 := hTm.2.2.1.2.2.2.2.2
      refine T_Table_loadTwice_53 ?_
      try simp only [t0, t1, t2, t3, t4, t5, t6, t7, t8, t9, t10]
      refine ⟨hTm.1, ?_⟩
      refine ⟨fun c1 => ?_, fun c1 => ?_⟩
      · skip
        rw [iw_s (x := q + 1) (by omega) (by omega)]
        exact KL0 mm (by omega) ⟨by omega, hTm, hF, by rw [mulS]; rw [show a = na by omega] at hX; exact hX⟩
      · skip
        refine ⟨hTm.1, _, c_Table_loadTwiceLine hTm hZ ⟨hnq.symm, hna.symm, hng.symm, hnr.symm⟩ hgm ho ht hz ⟨hq0, hql⟩ ⟨ha0, by omega⟩, ?_⟩
        rintro m3 ⟨hA, hB, hC⟩
        rw [iw_s (x := a + 1) (by omega) (by omega)]
        exact KL1 _ (by omega) ⟨⟨by omega, hql⟩, hTm.frame (hA 45 (by decide)), fun e e1 e2 => by rw [hA e e2]; exact hF e e1 e2, line_1 ⟨ha0, by omega⟩ (by omega) hX hB hC⟩)
    refine T_Table_loadTwice_42 ?_
    try simp only [t0, t1, t2, t3, t4, t5, t6, t7, t8, t9, t10]
    refine ⟨hTm.1, ?_⟩
    refine ⟨fun c1 => ?_, fun c1 => ?_⟩
    · skip
      rw [show q = nq by omega] at hX
      exact ⟨⟨hTm, hZ, hX, fun q a i _ _ _ _ _ _ => by have := fTn_in ho c nr q a i; omega⟩, hF⟩
    · skip
      exact L1 0 mm (by omega) ⟨⟨by omega, by omega⟩, hTm, hF, by rw [Int.add_zero]; exact hX⟩)
  have hgm := hg
  have k0 := hgm.2.1.1
  have k1 := hgm.2.1.2.1
  have k2 := hgm.2.1.2.2.1
  have k3 := hgm.2.1.2.2.2
  refine S_Table_loadTwice ?_
  try simp only [k0, k1, k2, k3]
  rw [hnq, hna, hng, hnr, iw_s (x := nq) (by omega) (by omega), iw_s (x := na) (by omega) (by omega), iw_s (x := ng) (by omega) (by omega), iw_s (x := nr) (by omega) (by omega)]
  refine ⟨hgm.1.1, hgm.1.1, hgm.1.1, hgm.1.1, hgm.1.1, hgm.1.1, hgm.1.1, hgm.1.1, ?_⟩
  refine ⟨hT.1, _, c_Table_setSizes hT (by omega), ?_⟩
  rintro m3 ⟨hA, hB⟩
  rw [hwe] at hA
  exact L0 0 _ (by omega) ⟨by omega, hA, fun e e1 _ => hB e e1, fun x x0 x1 => by rw [Int.zero_mul, Int.zero_mul] at x1; omega⟩
