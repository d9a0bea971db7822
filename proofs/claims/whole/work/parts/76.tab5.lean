/-! TABLE, fifth: all rows -/
theorem c_Table_leastLow {d : Nat} {kd : ZK} {m : ZM} {nq na ng nr w : Int} {f : Int → Int → Int → Int} (hT : TL kd m nq na ng nr w f) (h4 : 1 ≤ na ∧ na ≤ 4) (h5 : 0 ≤ nq ∧ nq ≤ 5) : CtI (d + 4) M_Table_leastLow [(2, 45)] kd m (fun x m1 => x = zlo (na ^ nq.toNat - 1).toNat (fun c => tLow nq ng nr f (erow nq na c)) ∧ ∀ e, e ≠ 47 → e ≠ 50 → m1 e = m e) := by
  have hZ := hT.2.1
  have hsz := hZ.1
  have hNb := pw_in h4 (n := nq.toNat) (by omega)
  have hrw : ∀ c, zrw nq na (erow nq na c) := fun c => erow_rw c (by omega)
  generalize hN : na ^ nq.toNat = N at *
  have L0 := zfor2 (N) (fun (i : Int) (mm : ZM) (t : Int) => Ev (d + 4) M_Table_leastLow 0 0 16 [(2, 45), (0, N), (0, t), (0, i)] [] kd mm (zqI kd (fun x m1 => x = zlo (N - 1).toNat (fun c => tLow nq ng nr f (erow nq na c)) ∧ ∀ e, e ≠ 47 → e ≠ 50 → m1 e = m e))) (fun (i : Int) (mm : ZM) (t : Int) => 1 ≤ i ∧ TE mm nq na w f (i - 1) ∧ t = zlo (i - 1).toNat (fun c => tLow nq ng nr f (erow nq na c)) ∧ ∀ e, e ≠ 47 → e ≠ 50 → mm e = m e) (by
    intro i mm t hb hI0 KL0
    obtain ⟨hi0, hE, ht, hF⟩ := hI0
    have hTm := hT.frame (m' := mm) (fun k _ => by rw [hF 45 (by decide) (by decide)]) (hF 46 (by decide) (by decide))
    refine T_Table_leastLow_16 ?_
    refine ⟨fun c1 => ?_, fun c1 => ?_⟩
    · skip
      exact ⟨by rw [ht, show i = N by omega], hF⟩
    · skip
      refine ⟨hT.1.1, _, c_Table_step hTm hE ⟨by omega, by rw [hN]; omega⟩, ?_⟩
      rintro m3 ⟨hA, hB⟩
      rw [hN, show i - 1 + 1 = i by omega] at hA
      refine ⟨hT.1.1, _, c_Table_low (hTm.frame (m' := m3) (fun k _ => by rw [hB 45 (by decide) (by decide)]) (hB 46 (by decide) (by decide))) ((hA (by omega)).sl (by omega)) (hrw _), ?_⟩
      rintro _ _ ⟨rfl, rfl⟩
      rw [iw_s (x := i + 1) (by omega) (by omega)]
      have x1 := zlo_1 (i := i - 1) (by omega) (fun c => tLow nq ng nr f (erow nq na c))
      rw [show i - 1 + 1 = i by omega] at x1
      exact KL0 _ _ (by omega) ⟨by omega, by rw [show i + 1 - 1 = i by omega]; exact hA (by omega), by rw [show i + 1 - 1 = i by omega, x1, ht], fun e e1 e2 => by rw [hB e e1 e2]; exact hF e e1 e2⟩)
  refine S_Table_leastLow ?_
  refine ⟨hT.1.1, _, c_Table_rows hT.1 h4 h5, ?_⟩
  rintro _ _ ⟨rfl, rfl⟩
  refine ⟨hT.1.1, _, c_Table_begin hT, ?_⟩
  rintro m6 ⟨hE0, hF0⟩
  refine ⟨hT.1.1, _, c_Table_low (hT.frame (fun k _ => by rw [hF0 45 (by decide) (by decide)]) (hF0 46 (by decide) (by decide))) (hE0.sl (by omega)) (hrw _), ?_⟩
  rintro _ _ ⟨rfl, rfl⟩
  rw [hN]
  exact L0 1 _ _ (by omega) ⟨by omega, hE0, rfl, hF0⟩
theorem c_Table_mostLow {d : Nat} {kd : ZK} {m : ZM} {nq na ng nr w : Int} {f : Int → Int → Int → Int} (hT : TL kd m nq na ng nr w f) (h4 : 1 ≤ na ∧ na ≤ 4) (h5 : 0 ≤ nq ∧ nq ≤ 5) : CtI (d + 4) M_Table_mostLow [(2, 45)] kd m (fun x m1 => x = zhi (na ^ nq.toNat - 1).toNat (fun c => tLow nq ng nr f (erow nq na c)) ∧ ∀ e, e ≠ 47 → e ≠ 50 → m1 e = m e) := by
  have hZ := hT.2.1
  have hsz := hZ.1
  have hNb := pw_in h4 (n := nq.toNat) (by omega)
  have hrw : ∀ c, zrw nq na (erow nq na c) := fun c => erow_rw c (by omega)
  generalize hN : na ^ nq.toNat = N at *
  have L0 := zfor2 (N) (fun (i : Int) (mm : ZM) (t : Int) => Ev (d + 4) M_Table_mostLow 0 0 16 [(2, 45), (0, N), (0, t), (0, i)] [] kd mm (zqI kd (fun x m1 => x = zhi (N - 1).toNat (fun c => tLow nq ng nr f (erow nq na c)) ∧ ∀ e, e ≠ 47 → e ≠ 50 → m1 e = m e))) (fun (i : Int) (mm : ZM) (t : Int) => 1 ≤ i ∧ TE mm nq na w f (i - 1) ∧ t = zhi (i - 1).toNat (fun c => tLow nq ng nr f (erow nq na c)) ∧ ∀ e, e ≠ 47 → e ≠ 50 → mm e = m e) (by
    intro i mm t hb hI0 KL0
    obtain ⟨hi0, hE, ht, hF⟩ := hI0
    have hTm := hT.frame (m' := mm) (fun k _ => by rw [hF 45 (by decide) (by decide)]) (hF 46 (by decide) (by decide))
    refine T_Table_mostLow_16 ?_
    refine ⟨fun c1 => ?_, fun c1 => ?_⟩
    · skip
      exact ⟨by rw [ht, show i = N by omega], hF⟩
    · skip
      refine ⟨hT.1.1, _, c_Table_step hTm hE ⟨by omega, by rw [hN]; omega⟩, ?_⟩
      rintro m3 ⟨hA, hB⟩
      rw [hN, show i - 1 + 1 = i by omega] at hA
      refine ⟨hT.1.1, _, c_Table_low (hTm.frame (m' := m3) (fun k _ => by rw [hB 45 (by decide) (by decide)]) (hB 46 (by decide) (by decide))) ((hA (by omega)).sl (by omega)) (hrw _), ?_⟩
      rintro _ _ ⟨rfl, rfl⟩
      rw [iw_s (x := i + 1) (by omega) (by omega)]
      have x1 := zhi_1 (i := i - 1) (by omega) (fun c => tLow nq ng nr f (erow nq na c))
      rw [show i - 1 + 1 = i by omega] at x1
      exact KL0 _ _ (by omega) ⟨by omega, by rw [show i + 1 - 1 = i by omega]; exact hA (by omega), by rw [show i + 1 - 1 = i by omega, x1, ht], fun e e1 e2 => by rw [hB e e1 e2]; exact hF e e1 e2⟩)
  refine S_Table_mostLow ?_
  refine ⟨hT.1.1, _, c_Table_rows hT.1 h4 h5, ?_⟩
  rintro _ _ ⟨rfl, rfl⟩
  refine ⟨hT.1.1, _, c_Table_begin hT, ?_⟩
  rintro m6 ⟨hE0, hF0⟩
  refine ⟨hT.1.1, _, c_Table_low (hT.frame (fun k _ => by rw [hF0 45 (by decide) (by decide)]) (hF0 46 (by decide) (by decide))) (hE0.sl (by omega)) (hrw _), ?_⟩
  rintro _ _ ⟨rfl, rfl⟩
  rw [hN]
  exact L0 1 _ _ (by omega) ⟨by omega, hE0, rfl, hF0⟩
def isFst (N : Int) (P : Int → Prop) (c : Int) : Prop := (0 ≤ c ∧ c < N) ∧ (∀ e, 0 ≤ e → e < c → ¬ P e) ∧ (P c ∨ c = N - 1)
theorem c_Table_firstRowOfLow {d : Nat} {kd : ZK} {m : ZM} {nq na ng nr w : Int} {f : Int → Int → Int → Int} {u : Int} (hT : TL kd m nq na ng nr w f) (h4 : 1 ≤ na ∧ na ≤ 4) (h5 : 0 ≤ nq ∧ nq ≤ 5) : CtI (d + 4) M_Table_firstRowOfLow [(2, 45), (0, u)] kd m (fun x m1 => (∃ c, isFst (na ^ nq.toNat) (fun c => tLow nq ng nr f (erow nq na c) = u) c ∧ x = zhn nq.toNat (erow nq na c)) ∧ ∀ e, e ≠ 47 → e ≠ 50 → m1 e = m e) := by
  have hZ := hT.2.1
  have hsz := hZ.1
  have hNb := pw_in h4 (n := nq.toNat) (by omega)
  have hrw : ∀ c, zrw nq na (erow nq na c) := fun c => erow_rw c (by omega)
  generalize hN : na ^ nq.toNat = N at *
  have hnum : ∀ (mm : ZM) (c : Int), (∀ j, 0 ≤ j → j < nq → mm 50 j = erow nq na c j) → CtI (d + 3) M_Duo_numberOf [(2, 50), (0, nq)] kd mm (qE mm (zhn nq.toNat (erow nq na c))) := by
    intro mm c he
    have hd := hrw c
    rw [← zhn_congr nq.toNat (fun q q0 q1 => he q q0 (by omega))]
    exact c_Duo_numberOf hT.1.2.2.2.2.2.2.2.1 (by omega) h5 (fun q q0 q1 => by rw [he q q0 q1]; have := hd q q0 q1; omega)
  have L0 := zfor1 (N) (fun (i : Int) (mm : ZM) => Ev (d + 4) M_Table_firstRowOfLow 0 0 11 [(2, 45), (0, u), (0, N), (0, i)] [] kd mm (zqI kd (fun x m1 => (∃ c, isFst N (fun c => tLow nq ng nr f (erow nq na c) = u) c ∧ x = zhn nq.toNat (erow nq na c)) ∧ ∀ e, e ≠ 47 → e ≠ 50 → m1 e = m e))) (fun (i : Int) (mm : ZM) => 1 ≤ i ∧ TE mm nq na w f (i - 1) ∧ (∀ e, 0 ≤ e → e < i - 1 → ¬ tLow nq ng nr f (erow nq na e) = u) ∧ ∀ e, e ≠ 47 → e ≠ 50 → mm e = m e) (by
    intro i mm hb hI0 KL0
    obtain ⟨hi0, hE, hX, hF⟩ := hI0
    have hTm := hT.frame (m' := mm) (fun k _ => by rw [hF 45 (by decide) (by decide)]) (hF 46 (by decide) (by decide))
    have t0 := hTm.1.2.1.1
    have t1 := hTm.1.2.1.2.1
    have t2 := hTm.1.2.1.2.2.1
    have t3 := hTm.1.2.1.2.2.2.1
    have t4 := hTm.1.2.1.2.2.2.2
    have t5 := hTm.1.2.2.1.1
    have t6 := hTm.1.2.2.1.2.1
    have t7 := hTm.1.2.2.1.2.2.1
    have t8 := hTm.1.2.2.1.2.2.2.1
    have t9 := hTm.1.2.2.1.2.2.2.2.1
    have t10 := hTm.1.2.2.1.2.2.2.2.2
    refine T_Table_firstRowOfLow_11 ?_
    try simp only [t0, t1, t2, t3, t4, t5, t6, t7, t8, t9, t10]
    refine ⟨fun c1 => ?_, fun c1 => ?_⟩
    · skip
      refine ⟨hT.1.1, hT.1.1, ?_⟩
      refine ⟨_, hnum mm (i - 1) hE.1, ?_⟩
      rintro _ _ ⟨rfl, rfl⟩
      first | exact ⟨⟨i - 1, ⟨⟨by omega, by omega⟩, hX, Or.inr (by omega)⟩, rfl⟩, hF⟩ | exact ⟨⟨i - 1, ⟨⟨by omega, by omega⟩, hX, Or.inl (by assumption)⟩, rfl⟩, hF⟩
    · skip
      refine ⟨hT.1.1, _, c_Table_low hTm (hE.sl (by omega)) (hrw _), ?_⟩
      rintro _ _ ⟨rfl, rfl⟩
      try simp only [t0, t1, t2, t3, t4, t5, t6, t7, t8, t9, t10]
      refine ⟨fun c2 => ?_, fun c2 => ?_⟩
      · skip
        refine ⟨hT.1.1, hT.1.1, ?_⟩
        refine ⟨_, hnum mm (i - 1) hE.1, ?_⟩
        rintro _ _ ⟨rfl, rfl⟩
        first | exact ⟨⟨i - 1, ⟨⟨by omega, by omega⟩, hX, Or.inr (by omega)⟩, rfl⟩, hF⟩ | exact ⟨⟨i - 1, ⟨⟨by omega, by omega⟩, hX, Or.inl (by assumption)⟩, rfl⟩, hF⟩
      · skip
        refine ⟨hT.1.1, _, c_Table_step hTm hE ⟨by omega, by rw [hN]; omega⟩, ?_⟩
        rintro m12 ⟨hA, hB⟩
        rw [hN, show i - 1 + 1 = i by omega] at hA
        rw [iw_s (x := i + 1) (by omega) (by omega)]
        refine KL0 _ (by omega) ⟨by omega, by rw [show i + 1 - 1 = i by omega]; exact hA (by omega), fun e e0 e1 => ?_, fun e e1 e2 => by rw [hB e e1 e2]; exact hF e e1 e2⟩
        rcases (show e < i - 1 ∨ e = i - 1 by omega) with q | q
        · exact hX e e0 q
        · rw [q]; assumption)
  refine S_Table_firstRowOfLow ?_
  refine ⟨hT.1.1, _, c_Table_rows hT.1 h4 h5, ?_⟩
  rintro _ _ ⟨rfl, rfl⟩
  refine ⟨hT.1.1, _, c_Table_begin hT, ?_⟩
  rintro m6 ⟨hE0, hF0⟩
  rw [hN]
  exact L0 1 _ (by omega) ⟨by omega, hE0, fun e e0 e1 => by omega, hF0⟩
noncomputable def tT (nq na ng nr : Int) (f : Int → Int → Int → Int) (u c : Int) : Int := zite (tHigh nq ng nr f (erow nq na c) = u) (tWays nq ng nr f (erow nq na c) 0) 0
theorem tT_in {nq na ng nr : Int} {f : Int → Int → Int → Int} {u : Int} (h : 1 ≤ nr ∧ nr ≤ 4) (hg : 0 ≤ ng ∧ ng ≤ 5) (c : Int) : 0 ≤ tT nq na ng nr f u c ∧ tT nq na ng nr f u c ≤ 1024 := by
  have := tWays_in (nq := nq) (f := f) (r := erow nq na c) (g := 0) (ng := ng) h ⟨by omega, by omega, by omega⟩
  unfold tT
  rcases Classical.em (tHigh nq ng nr f (erow nq na c) = u) with q | q
  · rw [zite_t q]; omega
  · rw [zite_f q]; omega
theorem lw_s {x : Int} (h1 : -9223372036854775808 ≤ x) (h2 : x ≤ 9223372036854775807) : lw64 x = x := lw_of h1 h2
theorem c_Table_countTops {d : Nat} {kd : ZK} {m : ZM} {nq na ng nr w : Int} {f : Int → Int → Int → Int} {u : Int} (hT : TL kd m nq na ng nr w f) (h4 : 1 ≤ na ∧ na ≤ 4) (h5 : 0 ≤ nq ∧ nq ≤ 5) (h6 : nr ≤ 4) (h7 : ng ≤ 5) : CtL (d + 4) M_Table_countTops [(2, 45), (0, u)] kd m (fun x m1 => x = zsum (na ^ nq.toNat).toNat (tT nq na ng nr f u) ∧ ∀ e, e ≠ 47 → e ≠ 50 → m1 e = m e) := by
  have hZ := hT.2.1
  have hsz := hZ.1
  have hNb := pw_in h4 (n := nq.toNat) (by omega)
  have hrw : ∀ c, zrw nq na (erow nq na c) := fun c => erow_rw c (by omega)
  generalize hN : na ^ nq.toNat = N at *
  have hTi := tT_in (nq := nq) (na := na) (f := f) (u := u) (nr := nr) (ng := ng) ⟨by omega, h6⟩ ⟨by omega, h7⟩
  have L0 := zfor2 (N) (fun (i : Int) (mm : ZM) (t : Int) => Ev (d + 4) M_Table_countTops 0 0 14 [(2, 45), (0, u), (0, N), (1, t), zJ, (0, i)] [] kd mm (zqL kd (fun x m1 => x = zsum N.toNat (tT nq na ng nr f u) ∧ ∀ e, e ≠ 47 → e ≠ 50 → m1 e = m e))) (fun (i : Int) (mm : ZM) (t : Int) => 0 ≤ i ∧ (i < N → TE mm nq na w f i) ∧ t = zsum i.toNat (tT nq na ng nr f u) ∧ ∀ e, e ≠ 47 → e ≠ 50 → mm e = m e) (by
    intro i mm t hb hI0 KL0
    obtain ⟨hi0, hE, ht, hF⟩ := hI0
    have hs := zsum_le (C := 1024) (f := tT nq na ng nr f u) (by decide) hTi i.toNat
    have hti := hTi i
    have hTm := hT.frame (m' := mm) (fun k _ => by rw [hF 45 (by decide) (by decide)]) (hF 46 (by decide) (by decide))
    refine T_Table_countTops_14 ?_
    refine ⟨fun c1 => ?_, fun c1 => ?_⟩
    · skip
      exact ⟨by rw [ht, show i = N by omega], hF⟩
    · skip
      refine ⟨hT.1.1, _, c_Table_high hTm ((hE (by omega)).sl (by omega)) (hrw _), ?_⟩
      rintro _ _ ⟨rfl, rfl⟩
      refine ⟨fun c2 => ?_, fun c2 => ?_⟩
      · skip
        refine ⟨hT.1.1, _, c_Table_step hTm (hE (by omega)) ⟨by omega, by rw [hN]; omega⟩, ?_⟩
        rintro m6 ⟨hA, hB⟩
        rw [hN] at hA
        rw [iw_s (x := i + 1) (by omega) (by omega)]
        have e1 : tT nq na ng nr f u i = 0 := zite_f (by assumption)
        exact KL0 _ _ (by omega) ⟨by omega, fun _ => hA (by omega), by rw [zsum_1 hi0]; omega, fun e e1 e2 => by rw [hB e e1 e2]; exact hF e e1 e2⟩
      · skip
        refine ⟨hT.1.1, _, c_Table_topRowsFrom hTm ((hE (by omega)).sl (by omega)) ⟨by omega, by omega⟩ h6 h7, ?_⟩
        rintro _ _ ⟨rfl, rfl⟩
        refine ⟨hT.1.1, _, c_Table_step hTm (hE (by omega)) ⟨by omega, by rw [hN]; omega⟩, ?_⟩
        rintro m12 ⟨hA, hB⟩
        rw [hN] at hA
        rw [iw_s (x := i + 1) (by omega) (by omega)]
        have e1 : tT nq na ng nr f u i = tWays nq ng nr f (erow nq na i) 0 := zite_t (by omega)
        rw [← e1, lw_s (by omega) (by omega)]
        exact KL0 _ _ (by omega) ⟨by omega, fun _ => hA (by omega), by rw [zsum_1 hi0]; omega, fun e e1 e2 => by rw [hB e e1 e2]; exact hF e e1 e2⟩)
  refine S_Table_countTops ?_
  refine ⟨hT.1.1, _, c_Table_rows hT.1 h4 h5, ?_⟩
  rintro _ _ ⟨rfl, rfl⟩
  refine ⟨hT.1.1, _, c_Table_begin hT, ?_⟩
  rintro m6 ⟨hE0, hF0⟩
  rw [hN]
  exact L0 0 _ 0 (by omega) ⟨by omega, fun _ => hE0, rfl, hF0⟩
noncomputable def tWL (nq ng nr : Int) (f : Int → Int → Int → Int) (r : Int → Int) (y : Int) (L : Int → Prop) : Int := zprd ng.toNat (zput (fun g => tTops nq nr f r g) y (tLose nq nr f r y L))
theorem zput_put {f : Int → Int} {y v v2 : Int} : zput (zput f y v) y v2 = zput f y v2 := by
  funext q
  unfold zput
  split <;> rfl
theorem tWL_one {nq ng nr : Int} {f : Int → Int → Int → Int} {r : Int → Int} {y : Int} {L : Int → Prop} (hy : 0 ≤ y ∧ y < ng) : tLose nq nr f r y L * zprd ng.toNat (zput (fun g => tTops nq nr f r g) y 1) = tWL nq ng nr f r y L := by
  have e2 := zprd_put (f := zput (fun g => tTops nq nr f r g) y 1) (y := y) (v := tLose nq nr f r y L) ng.toNat hy.1 (by omega)
  rw [zput_put, show zput (fun g => tTops nq nr f r g) y 1 y = 1 from if_pos rfl, Int.mul_one] at e2
  rw [Int.mul_comm]
  exact e2.symm
theorem tLose_in {nq nr : Int} {f : Int → Int → Int → Int} {r : Int → Int} {y : Int} {L : Int → Prop} (h : 1 ≤ nr) : 0 ≤ tLose nq nr f r y L ∧ tLose nq nr f r y L ≤ nr := by
  have h1 := zsum_le (C := 1) (f := fun j => zb (isTop nq nr f r y j ∧ L j)) (by decide) (fun j => zb_01) nr.toNat
  unfold tLose
  omega
theorem tWL_in {nq ng nr : Int} {f : Int → Int → Int → Int} {r : Int → Int} {y : Int} {L : Int → Prop} (h : 1 ≤ nr ∧ nr ≤ 4) (hg : 0 ≤ ng ∧ ng ≤ 5) : 0 ≤ tWL nq ng nr f r y L ∧ tWL nq ng nr f r y L ≤ 1024 := by
  have h1 := zprd_in (f := zput (fun g => tTops nq nr f r g) y (tLose nq nr f r y L)) ng.toNat (by omega) (fun i _ _ => by
    have a1 := tTops_in (nq := nq) (f := f) (r := r) (g := i) h.1
    have a2 := tLose_in (nq := nq) (f := f) (r := r) (y := y) (L := L) h.1
    unfold zput
    split <;> (try simp only []) <;> omega)
  have h3 := p4_in (n := ng.toNat) (by omega)
  unfold tWL
  omega
noncomputable def tTL (nq na ng nr : Int) (f : Int → Int → Int → Int) (G : GR) (x y u c : Int) : Int := zite (tHigh nq ng nr f (erow nq na c) = u) (tWL nq ng nr f (erow nq na c) y (fun j => gV G x y (erow nq na c x) j = 0)) 0
theorem c_Table_topRowsLosing {d : Nat} {kd : ZK} {m : ZM} {nq na ng nr w : Int} {f : Int → Int → Int → Int} {h : Int} {G : GR} {r : Int → Int} {x y : Int} (hT : TL kd m nq na ng nr w f) (hS : SL m nq w f r) (h4 : nr ≤ 4) (h5 : ng ≤ 5) (hc : CG kd m h G) (ho : GOK G) (hq : nq = G 0 ∧ na = G 2 ∧ ng = G 1 ∧ nr = G 3) (hx : 0 ≤ x ∧ x < nq) (hy : 0 ≤ y ∧ y < ng) (hr : zrw nq na r) (hR : ∀ j, 0 ≤ j → j < nq → m 50 j = r j) : CtI (d + 4) M_Table_topRowsLosing [(2, 45), (2, h), (0, x), (0, y)] kd m (qE m (tWL nq ng nr f r y (fun j => gV G x y (r x) j = 0))) := by
  have hZ := hT.2.1
  have hsz := hZ.1
  have t0 := hT.1.2.1.1
  have t1 := hT.1.2.1.2.1
  have t2 := hT.1.2.1.2.2.1
  have t3 := hT.1.2.1.2.2.2.1
  have t4 := hT.1.2.1.2.2.2.2
  have t5 := hT.1.2.2.1.1
  have t6 := hT.1.2.2.1.2.1
  have t7 := hT.1.2.2.1.2.2.1
  have t8 := hT.1.2.2.1.2.2.2.1
  have t9 := hT.1.2.2.1.2.2.2.2.1
  have t10 := hT.1.2.2.1.2.2.2.2.2
  have L0 := zfor1 (ng) (fun (l : Int) (t : Int) => Ev (d + 4) M_Table_topRowsLosing 0 0 12 [(2, 45), zJ, zJ, (0, y), (0, t), (0, l)] [] kd m (zqI kd (qE m (tWL nq ng nr f r y (fun j => gV G x y (r x) j = 0))))) (fun (l : Int) (t : Int) => 0 ≤ l ∧ t = tLose nq nr f r y (fun j => gV G x y (r x) j = 0) * zprd l.toNat (zput (fun g => tTops nq nr f r g) y 1)) (by
    intro l t hb hI0 KL0
    obtain ⟨hl0, ht⟩ := hI0
    have hp1 := zprd_in (f := (zput (fun g => tTops nq nr f r g) y 1)) l.toNat (by omega) (fun i _ _ => by
      have a1 := tTops_in (nq := nq) (f := f) (r := r) (g := i) hsz.2.2.2.1
      unfold zput
      split <;> (try simp only []) <;> omega)
    have hp2 := p4_in (n := l.toNat) (by omega)
    have hp3 := tTops_in (nq := nq) (f := f) (r := r) (g := l) hsz.2.2.2.1
    have hp5 := tLose_in (nq := nq) (f := f) (r := r) (y := y) (L := (fun j => gV G x y (r x) j = 0)) hsz.2.2.2.1
    have hp6 := zmul_in (a := tLose nq nr f r y (fun j => gV G x y (r x) j = 0)) (b := zprd l.toNat (zput (fun g => tTops nq nr f r g) y 1)) (A := 4) (B := 1024) (by omega) (by omega)
    have hp4 := zmul_in (a := t) (b := tTops nq nr f r l) (A := 4096) (B := 4) (by omega) (by omega)
    have x1 := zprd_1 (i := l) hl0 (zput (fun g => tTops nq nr f r g) y 1)
    refine T_Table_topRowsLosing_12 ?_
    try simp only [t0, t1, t2, t3, t4, t5, t6, t7, t8, t9, t10]
    refine ⟨hT.1.1, ?_⟩
    refine ⟨fun c1 => ?_, fun c1 => ?_⟩
    · skip
      exact ⟨by rw [ht, show l = ng by omega]; exact tWL_one hy, rfl⟩
    · skip
      refine ⟨fun c2 => ?_, fun c2 => ?_⟩
      · skip
        rw [iw_s (x := l + 1) (by omega) (by omega)]
        rw [show (zput (fun g => tTops nq nr f r g) y 1) l = 1 from if_pos (by omega), Int.mul_one] at x1
        exact KL0 _ (by omega) ⟨by omega, by rw [x1, ht]⟩
      · skip
        refine ⟨hT.1.1, _, c_Table_topReplies hT hS ⟨by omega, by omega⟩, ?_⟩
        rintro _ _ ⟨rfl, rfl⟩
        try simp only [t0, t1, t2, t3, t4, t5, t6, t7, t8, t9, t10]
        rw [iw_s (x := l + 1) (by omega) (by omega)]
        rw [iw_s (x := t * tTops nq nr f r l) (by omega) (by omega)]
        rw [show (zput (fun g => tTops nq nr f r g) y 1) l = tTops nq nr f r l from if_neg (by omega)] at x1
        exact KL0 _ (by omega) ⟨by omega, by rw [x1, ht, Int.mul_assoc]⟩)
  refine S_Table_topRowsLosing ?_
  refine ⟨hT.1.1, _, c_Table_topRepliesLosing hT hS hy hc ho hq hx hr hR, ?_⟩
  rintro _ _ ⟨rfl, rfl⟩
  exact L0 0 _ (by omega) ⟨by omega, (Int.mul_one _).symm⟩
theorem c_Table_countTopsLosing {d : Nat} {kd : ZK} {m : ZM} {nq na ng nr w : Int} {f : Int → Int → Int → Int} {u h x y : Int} {G : GR} (hT : TL kd m nq na ng nr w f) (h4 : 1 ≤ na ∧ na ≤ 4) (h5 : 0 ≤ nq ∧ nq ≤ 5) (h6 : nr ≤ 4) (h7 : ng ≤ 5) (hc : CG kd m h G) (ho : GOK G) (hz : 55 < h) (hq : nq = G 0 ∧ na = G 2 ∧ ng = G 1 ∧ nr = G 3) (hx : 0 ≤ x ∧ x < nq) (hy : 0 ≤ y ∧ y < ng) : CtL (d + 5) M_Table_countTopsLosing [(2, 45), (2, h), (0, u), (0, x), (0, y)] kd m (fun z m1 => z = zsum (na ^ nq.toNat).toNat (tTL nq na ng nr f G x y u) ∧ ∀ e, e ≠ 47 → e ≠ 50 → m1 e = m e) := by
  have hZ := hT.2.1
  have hsz := hZ.1
  have hNb := pw_in h4 (n := nq.toNat) (by omega)
  have hrw : ∀ c, zrw nq na (erow nq na c) := fun c => erow_rw c (by omega)
  have hTi : ∀ c, 0 ≤ tTL nq na ng nr f G x y u c ∧ tTL nq na ng nr f G x y u c ≤ 1024 := fun c => by
    have := tWL_in (nq := nq) (f := f) (r := erow nq na c) (y := y) (L := fun j => gV G x y (erow nq na c x) j = 0) (ng := ng) (nr := nr) ⟨by omega, h6⟩ ⟨by omega, h7⟩
    unfold tTL
    rcases Classical.em (tHigh nq ng nr f (erow nq na c) = u) with q | q
    · rw [zite_t q]; omega
    · rw [zite_f q]; omega
  generalize hN : na ^ nq.toNat = N at *
  have L0 := zfor2 (N) (fun (i : Int) (mm : ZM) (t : Int) => Ev (d + 5) M_Table_countTopsLosing 0 0 16 [(2, 45), (2, h), (0, u), (0, x), (0, y), (0, N), (1, t), zJ, (0, i)] [] kd mm (zqL kd (fun z m1 => z = zsum N.toNat (tTL nq na ng nr f G x y u) ∧ ∀ e, e ≠ 47 → e ≠ 50 → m1 e = m e))) (fun (i : Int) (mm : ZM) (t : Int) => 0 ≤ i ∧ (i < N → TE mm nq na w f i) ∧ t = zsum i.toNat (tTL nq na ng nr f G x y u) ∧ ∀ e, e ≠ 47 → e ≠ 50 → mm e = m e) (by
    intro i mm t hb hI0 KL0
    obtain ⟨hi0, hE, ht, hF⟩ := hI0
    have hs := zsum_le (C := 1024) (f := tTL nq na ng nr f G x y u) (by decide) hTi i.toNat
    have hti := hTi i
    have hcm : CG kd mm h G := hc.frame (fun a a1 a2 => hF a (by omega) (by omega))
    have hTm := hT.frame (m' := mm) (fun k _ => by rw [hF 45 (by decide) (by decide)]) (hF 46 (by decide) (by decide))
    refine T_Table_countTopsLosing_16 ?_
    refine ⟨fun c1 => ?_, fun c1 => ?_⟩
    · skip
      exact ⟨by rw [ht, show i = N by omega], hF⟩
    · skip
      refine ⟨hT.1.1, _, c_Table_high hTm ((hE (by omega)).sl (by omega)) (hrw _), ?_⟩
      rintro _ _ ⟨rfl, rfl⟩
      refine ⟨fun c2 => ?_, fun c2 => ?_⟩
      · skip
        refine ⟨hT.1.1, _, c_Table_step hTm (hE (by omega)) ⟨by omega, by rw [hN]; omega⟩, ?_⟩
        rintro m6 ⟨hA, hB⟩
        rw [hN] at hA
        rw [iw_s (x := i + 1) (by omega) (by omega)]
        have e1 : tTL nq na ng nr f G x y u i = 0 := zite_f (by assumption)
        exact KL0 _ _ (by omega) ⟨by omega, fun _ => hA (by omega), by rw [zsum_1 hi0]; omega, fun e e1 e2 => by rw [hB e e1 e2]; exact hF e e1 e2⟩
      · skip
        refine ⟨hT.1.1, _, c_Table_topRowsLosing hTm ((hE (by omega)).sl (by omega)) h6 h7 hcm ho hq hx hy (hrw _) (hE (by omega)).1, ?_⟩
        rintro _ _ ⟨rfl, rfl⟩
        refine ⟨hT.1.1, _, c_Table_step hTm (hE (by omega)) ⟨by omega, by rw [hN]; omega⟩, ?_⟩
        rintro m12 ⟨hA, hB⟩
        rw [hN] at hA
        rw [iw_s (x := i + 1) (by omega) (by omega)]
        have e1 : tTL nq na ng nr f G x y u i = tWL nq ng nr f (erow nq na i) y (fun j => gV G x y (erow nq na i x) j = 0) := zite_t (by omega)
        rw [← e1, lw_s (by omega) (by omega)]
        exact KL0 _ _ (by omega) ⟨by omega, fun _ => hA (by omega), by rw [zsum_1 hi0]; omega, fun e e1 e2 => by rw [hB e e1 e2]; exact hF e e1 e2⟩)
  refine S_Table_countTopsLosing ?_
  refine ⟨hT.1.1, _, c_Table_rows hT.1 h4 h5, ?_⟩
  rintro _ _ ⟨rfl, rfl⟩
  refine ⟨hT.1.1, _, c_Table_begin hT, ?_⟩
  rintro m6 ⟨hE0, hF0⟩
  rw [hN]
  exact L0 0 _ 0 (by omega) ⟨by omega, fun _ => hE0, rfl, hF0⟩
