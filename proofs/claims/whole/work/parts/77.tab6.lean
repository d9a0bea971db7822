/-! TABLE, sixth: one of the best rows -/
/-- j is the p-th of the replies that bring most -/
def isTA (nq nr : Int) (f : Int → Int → Int → Int) (r : Int → Int) (g p j : Int) : Prop := (0 ≤ j ∧ j < nr) ∧ isTop nq nr f r g j ∧ zsum j.toNat (fun i => zb (isTop nq nr f r g i)) = p
theorem zb_mono {P : Int → Prop} {i j : Int} (h0 : 0 ≤ i) (h : i < j) (hi : P i) : zsum i.toNat (fun i => zb (P i)) < zsum j.toNat (fun i => zb (P i)) := by
  have h1 := zsum_1 h0 (fun i => zb (P i))
  try simp only [] at h1
  rw [zb_t hi] at h1
  have h2 := zsum_cat (f := fun i => zb (P i)) (i + 1).toNat (j - (i + 1)).toNat
  rw [show (i + 1).toNat + (j - (i + 1)).toNat = j.toNat by omega] at h2
  have h3 := zsum_nn (f := fun k => zb (P ((((i + 1).toNat : Nat) : Int) + k))) (j - (i + 1)).toNat (fun _ _ _ => zb_01.1)
  omega
theorem isTA_eq {nq nr : Int} {f : Int → Int → Int → Int} {r : Int → Int} {g p i j : Int} (h : isTA nq nr f r g p i) (k : isTA nq nr f r g p j) : i = j := by
  rcases (show i < j ∨ i = j ∨ j < i by omega) with q | q | q
  · have := zb_mono h.1.1 q h.2.1
    rw [h.2.2, k.2.2] at this
    omega
  · exact q
  · have := zb_mono k.1.1 q k.2.1
    rw [h.2.2, k.2.2] at this
    omega
theorem c_Table_topReplyAt {d : Nat} {kd : ZK} {m : ZM} {nq na ng nr w : Int} {f : Int → Int → Int → Int} {r : Int → Int} {g p : Int} (hT : TL kd m nq na ng nr w f) (hS : SL m nq w f r) (hg : 0 ≤ g ∧ g < ng) (hp : 0 ≤ p ∧ p < tTops nq nr f r g) : CtI (d + 3) M_Table_topReplyAt [(2, 45), (0, g), (0, p)] kd m (fun x m1 => isTA nq nr f r g p x ∧ m = m1) := by
  have hZ := hT.2.1
  have hsz := hZ.1
  have hpb := (tTops_in (nq := nq) (f := f) (r := r) (g := g) (nr := nr) (by omega)).2
  have t0 := hT.1.2.1.1
  have t1 := hT.1.2.1.2.1
  have t2 := hT.1.2.1.2.2.1
  have t3 := hT.1.2.1.2.2.2.1
  have t4 := hT.1.2.1.2.2.2.2
  have t5 := hT.1.2.2.1.1
  have t6 := hT.1.2.2.1.2.1
  have t7 := hT.1.2.2.1.2.2.1
  have t8 := hT.1.2.2.1.2.2.2.1
  have t9 := hT.1.2.2.1.2.2.2.2.1
  have t10 := hT.1.2.2.1.2.2.2.2.2
  have L0 := zfor1 (nr) (fun (j : Int) (l : Int) => Ev (d + 3) M_Table_topReplyAt 0 0 5 [(2, 45), (0, g), zJ, (0, l), (0, j)] [] kd m (zqI kd (fun x m1 => isTA nq nr f r g p x ∧ m = m1))) (fun (j : Int) (l : Int) => 0 ≤ j ∧ 0 ≤ l ∧ l = p - zsum j.toNat (fun j => zb (isTop nq nr f r g j))) (by
    intro j l hb hI0 KL0
    obtain ⟨hj0, hl0, hl⟩ := hI0
    have x1 := zsum_1 hj0 (fun j => zb (isTop nq nr f r g j))
    try simp only [] at x1
    have hs := zsum_le (C := 1) (f := (fun j => zb (isTop nq nr f r g j))) (by decide) (fun _ => zb_01) j.toNat
    refine T_Table_topReplyAt_5 ?_
    try simp only [t0, t1, t2, t3, t4, t5, t6, t7, t8, t9, t10]
    refine ⟨hT.1.1, ?_⟩
    refine ⟨fun c1 => ?_, fun c1 => ?_⟩
    · skip
      exfalso
      unfold tTops at hp
      have ej : j = nr := by omega
      rw [ej] at hl
      omega
    · skip
      refine ⟨hT.1.1, _, c_Table_isTopReply hT hS hg ⟨hj0, by omega⟩, ?_⟩
      rintro _ _ ⟨rfl, rfl⟩
      refine ⟨fun c2 => ?_, fun c2 => ?_⟩
      · try simp only [zb_eq0, zb_ne0] at c2
        have hw : ¬ isTop nq nr f r g j := by assumption
        rw [zb_f hw] at x1
        rw [iw_s (x := j + 1) (by omega) (by omega)]
        exact KL0 _ (by omega) ⟨by omega, by omega, by omega⟩
      · try simp only [zb_eq0, zb_ne0] at c2
        refine ⟨fun c3 => ?_, fun c3 => ?_⟩
        · skip
          have hw : isTop nq nr f r g j := by first | assumption | exact Classical.not_not.1 (by assumption)
          rw [zb_t hw] at x1
          rw [iw_s (x := j + 1) (by omega) (by omega)]
          rw [iw_s (x := l + -1) (by omega) (by omega)]
          exact KL0 _ (by omega) ⟨by omega, by omega, by omega⟩
        · skip
          have hw : isTop nq nr f r g j := by first | assumption | exact Classical.not_not.1 (by assumption)
          exact ⟨⟨⟨hj0, by omega⟩, hw, by omega⟩, rfl⟩)
  refine S_Table_topReplyAt ?_
  exact L0 0 p (by omega) ⟨by omega, hp.1, by rw [zsum_0]; omega⟩
noncomputable def tLf (nq ng nr : Int) (f : Int → Int → Int → Int) (r : Int → Int) (k : Int) : Nat → Int
  | 0 => k
  | n + 1 => Int.emod (tLf nq ng nr f r k n) (tWays nq ng nr f r (n + 1))
/-- s is the k-th row of such replies -/
def isTR (nq ng nr : Int) (f : Int → Int → Int → Int) (r : Int → Int) (k : Int) (s : Int → Int) : Prop := ∀ g, 0 ≤ g → g < ng → isTA nq nr f r g (tLf nq ng nr f r k g.toNat / tWays nq ng nr f r (g + 1)) (s g)
theorem tLf_1 {nq ng nr : Int} {f : Int → Int → Int → Int} {r : Int → Int} {k g : Int} (h : 0 ≤ g) : tLf nq ng nr f r k (g + 1).toNat = tLf nq ng nr f r k g.toNat % tWays nq ng nr f r (g + 1) := by
  have e : (g + 1).toNat = g.toNat + 1 := by omega
  rw [e, tLf, show ((g.toNat : Nat) : Int) = g by omega]
  rfl
theorem tLf_in {nq ng nr : Int} {f : Int → Int → Int → Int} {r : Int → Int} {k g : Int} (h0 : 0 ≤ g) (h1 : g < ng) (hn : 1 ≤ nr ∧ nr ≤ 4) (h5 : ng ≤ 5) (h : 0 ≤ tLf nq ng nr f r k g.toNat ∧ tLf nq ng nr f r k g.toNat < tWays nq ng nr f r g) : (0 ≤ tLf nq ng nr f r k g.toNat / tWays nq ng nr f r (g + 1) ∧ tLf nq ng nr f r k g.toNat / tWays nq ng nr f r (g + 1) < tTops nq nr f r g) ∧ 0 ≤ tLf nq ng nr f r k (g + 1).toNat ∧ tLf nq ng nr f r k (g + 1).toNat < tWays nq ng nr f r (g + 1) := by
  have hw := tWays_in (nq := nq) (f := f) (r := r) (g := g + 1) (ng := ng) hn ⟨by omega, by omega, h5⟩
  rw [tWays_s h1] at h
  rw [tLf_1 h0]
  exact ⟨⟨Int.ediv_nonneg h.1 (by omega), Int.ediv_lt_of_lt_mul (by omega) h.2⟩, Int.emod_nonneg _ (by omega), Int.emod_lt_of_pos _ (by omega)⟩
theorem c_Table_findTopReplies {d : Nat} {kd : ZK} {m : ZM} {nq na ng nr w : Int} {f : Int → Int → Int → Int} {r : Int → Int} {k : Int} (hT : TL kd m nq na ng nr w f) (hS : SL m nq w f r) (h6 : nr ≤ 4) (h7 : ng ≤ 5) (hk : 0 ≤ k ∧ k < tWays nq ng nr f r 0) : CtV (d + 4) M_Table_findTopReplies [(2, 45), (0, k)] kd m (fun m1 => isTR nq ng nr f r k (m1 51) ∧ ∀ e, e ≠ 51 → m1 e = m e) := by
  have hZ := hT.2.1
  have hsz := hZ.1
  have t0 := hT.1.2.1.1
  have t1 := hT.1.2.1.2.1
  have t2 := hT.1.2.1.2.2.1
  have t3 := hT.1.2.1.2.2.2.1
  have t4 := hT.1.2.1.2.2.2.2
  have t5 := hT.1.2.2.1.1
  have t6 := hT.1.2.2.1.2.1
  have t7 := hT.1.2.2.1.2.2.1
  have t8 := hT.1.2.2.1.2.2.2.1
  have t9 := hT.1.2.2.1.2.2.2.2.1
  have t10 := hT.1.2.2.1.2.2.2.2.2
  have L0 := zfor2 (ng) (fun (g : Int) (mm : ZM) (l : Int) => Ev (d + 4) M_Table_findTopReplies 0 0 4 [(2, 45), zJ, (0, l), (0, g), zJ] [] kd mm (zqV kd (fun m1 => isTR nq ng nr f r k (m1 51) ∧ ∀ e, e ≠ 51 → m1 e = m e))) (fun (g : Int) (mm : ZM) (l : Int) => 0 ≤ g ∧ l = tLf nq ng nr f r k g.toNat ∧ (g < ng → 0 ≤ tLf nq ng nr f r k g.toNat ∧ tLf nq ng nr f r k g.toNat < tWays nq ng nr f r g) ∧ (∀ e, e ≠ 51 → mm e = m e) ∧ ∀ j, 0 ≤ j → j < g → isTA nq nr f r j (tLf nq ng nr f r k j.toNat / tWays nq ng nr f r (j + 1)) (mm 51 j)) (by
    intro g mm l hb hI0 KL0
    obtain ⟨hg0, hl, hlb, hF, hX⟩ := hI0
    have hTm := hT.frame (m' := mm) (fun k _ => by rw [hF 45 (by decide)]) (hF 46 (by decide))
    have hSm : SL mm nq w f r := fun i i0 i1 => by rw [hF 47 (by decide)]; exact hS i i0 i1
    have t0 := hTm.1.2.1.1
    have t1 := hTm.1.2.1.2.1
    have t2 := hTm.1.2.1.2.2.1
    have t3 := hTm.1.2.1.2.2.2.1
    have t4 := hTm.1.2.1.2.2.2.2
    have t5 := hTm.1.2.2.1.1
    have t6 := hTm.1.2.2.1.2.1
    have t7 := hTm.1.2.2.1.2.2.1
    have t8 := hTm.1.2.2.1.2.2.2.1
    have t9 := hTm.1.2.2.1.2.2.2.2.1
    have t10 := hTm.1.2.2.1.2.2.2.2.2
    refine T_Table_findTopReplies_4 ?_
    try simp only [t0, t1, t2, t3, t4, t5, t6, t7, t8, t9, t10]
    refine ⟨hTm.1.1, ?_⟩
    refine ⟨fun c1 => ?_, fun c1 => ?_⟩
    · skip
      exact ⟨fun j j0 j1 => hX j j0 (by omega), hF⟩
    · skip
      refine ⟨hTm.1.1, _, c_Table_topRowsFrom hTm hSm (by rw [iw_s (by omega) (by omega)]; omega) h6 h7, ?_⟩
      rintro _ _ ⟨rfl, rfl⟩
      try simp only [t0, t1, t2, t3, t4, t5, t6, t7, t8, t9, t10]
      rw [iw_s (x := g + 1) (by omega) (by omega)]
      have hw1 := tWays_in (nq := nq) (f := f) (r := r) (g := g + 1) (ng := ng) (nr := nr) ⟨by omega, h6⟩ ⟨by omega, by omega, h7⟩
      have hlf := tLf_in hg0 (by omega) ⟨by omega, h6⟩ h7 (hlb (by omega))
      have hlb1 := hlb (by omega)
      have hlb2 := tWays_in (nq := nq) (f := f) (r := r) (g := g) (ng := ng) (nr := nr) ⟨by omega, h6⟩ ⟨by omega, by omega, h7⟩
      have htp := tTops_in (nq := nq) (f := f) (r := r) (g := g) (nr := nr) (by omega)
      rw [← hl] at hlb1
      refine ⟨hTm.1.1, ?_⟩
      refine ⟨fun c2 => ?_, fun c2 => ?_⟩
      · skip
        refine ⟨(by omega), ?_⟩
        rw [hl, Int.tdiv_eq_ediv_of_nonneg (by omega), iw_s (by omega) (by omega)]
        refine T_Table_findTopReplies_41 ?_
        refine ⟨hTm.1.1, _, c_Table_topReplyAt hTm hSm ⟨hg0, by omega⟩ hlf.1, ?_⟩
        rintro x2 m3 ⟨hA, rfl⟩
        refine ⟨(hTm.1.i51 (by omega) (by omega)), ?_⟩
        refine ⟨fun c1 => ?_, fun c1 => ?_⟩
        · skip
          refine ⟨(by omega), ?_⟩
          rw [iw_s (x := g + 1) (by omega) (by omega)]
          rw [Int.tmod_eq_emod_of_nonneg (by omega), ← tLf_1 hg0]
          refine KL0 _ _ (by omega) ⟨by omega, rfl, fun _ => hlf.2, fun e he => by rw [zup_off he]; exact hF e he, fun j j0 j1 => ?_⟩
          rw [zup_at]
          rcases (show j = g ∨ j < g by omega) with q | q
          · rw [q, gup_at]; exact hA
          · rw [gup_off (by omega)]; exact hX j j0 q
        · skip
          exact absurd hw1 (by omega)
      · skip
        exact absurd hw1 (by omega))
  refine S_Table_findTopReplies ?_
  exact L0 0 m k (by omega) ⟨by omega, rfl, fun _ => hk, fun _ _ => rfl, fun j j0 j1 => by omega⟩
/-- the k-th two of rows that bring most: the row of a player -/
def isKth (nq na ng nr : Int) (f : Int → Int → Int → Int) (u k p : Int) (N x : Int) : Prop := (∃ c, (0 ≤ c ∧ c < N) ∧ zsum c.toNat (tT nq na ng nr f u) ≤ k ∧ k < zsum c.toNat (tT nq na ng nr f u) + tT nq na ng nr f u c ∧ (p = 0 → x = zhn nq.toNat (erow nq na c)) ∧ (p ≠ 0 → ∃ s, isTR nq ng nr f (erow nq na c) (k - zsum c.toNat (tT nq na ng nr f u)) s ∧ x = zhn ng.toNat s)) ∨ (zsum N.toNat (tT nq na ng nr f u) ≤ k ∧ x = -2)
theorem c_Table_rowOfTop {d : Nat} {kd : ZK} {m : ZM} {nq na ng nr w : Int} {f : Int → Int → Int → Int} {u k p : Int} (hT : TL kd m nq na ng nr w f) (h4 : 1 ≤ na ∧ na ≤ 4) (h5 : 0 ≤ nq ∧ nq ≤ 5) (h6 : nr ≤ 4) (h7 : ng ≤ 5) (hk : 0 ≤ k ∧ k ≤ 2147483647) : CtI (d + 5) M_Table_rowOfTop [(2, 45), (0, u), (0, k), (0, p)] kd m (fun x m1 => isKth nq na ng nr f u k p (na ^ nq.toNat) x ∧ ∀ e, e ≠ 47 → e ≠ 50 → e ≠ 51 → m1 e = m e) := by
  have hZ := hT.2.1
  have hsz := hZ.1
  have hNb := pw_in h4 (n := nq.toNat) (by omega)
  have hrw : ∀ c, zrw nq na (erow nq na c) := fun c => erow_rw c (by omega)
  generalize hN : na ^ nq.toNat = N at *
  have hTi := tT_in (nq := nq) (na := na) (f := f) (u := u) (nr := nr) (ng := ng) ⟨by omega, h6⟩ ⟨by omega, h7⟩
  have hnum : ∀ (mm : ZM) (c : Int), (∀ j, 0 ≤ j → j < nq → mm 50 j = erow nq na c j) → CtI (d + 4) M_Duo_numberOf [(2, 50), (0, nq)] kd mm (qE mm (zhn nq.toNat (erow nq na c))) := by
    intro mm c he
    have hd := hrw c
    rw [← zhn_congr nq.toNat (fun q q0 q1 => he q q0 (by omega))]
    exact c_Duo_numberOf hT.1.2.2.2.2.2.2.2.1 (by omega) h5 (fun q q0 q1 => by rw [he q q0 q1]; have := hd q q0 q1; omega)
  have L0 := zfor2 (N) (fun (i : Int) (mm : ZM) (l : Int) => Ev (d + 5) M_Table_rowOfTop 0 0 16 [(2, 45), (0, u), zJ, (0, p), (0, N), (0, l), (0, i), zJ] [] kd mm (zqI kd (fun x m1 => isKth nq na ng nr f u k p N x ∧ ∀ e, e ≠ 47 → e ≠ 50 → e ≠ 51 → m1 e = m e))) (fun (i : Int) (mm : ZM) (l : Int) => 0 ≤ i ∧ (i < N → TE mm nq na w f i) ∧ 0 ≤ l ∧ l = k - zsum i.toNat (tT nq na ng nr f u) ∧ ∀ e, e ≠ 47 → e ≠ 50 → mm e = m e) (by
    intro i mm l hb hI0 KL0
    obtain ⟨hi0, hE, hl0, hl, hF⟩ := hI0
    have hs := zsum_le (C := 1024) (f := tT nq na ng nr f u) (by decide) hTi i.toNat
    have hti := hTi i
    have hTm := hT.frame (m' := mm) (fun k _ => by rw [hF 45 (by decide) (by decide)]) (hF 46 (by decide) (by decide))
    have t0 := hTm.1.2.1.1
    have t1 := hTm.1.2.1.2.1
    have t2 := hTm.1.2.1.2.2.1
    have t3 := hTm.1.2.1.2.2.2.1
    have t4 := hTm.1.2.1.2.2.2.2
    have t5 := hTm.1.2.2.1.1
    have t6 := hTm.1.2.2.1.2.1
    have t7 := hTm.1.2.2.1.2.2.1
    have t8 := hTm.1.2.2.1.2.2.2.1
    have t9 := hTm.1.2.2.1.2.2.2.2.1
    have t10 := hTm.1.2.2.1.2.2.2.2.2
    refine T_Table_rowOfTop_16 ?_
    refine ⟨fun c1 => ?_, fun c1 => ?_⟩
    · skip
      exact ⟨Or.inr ⟨by rw [show N = i by omega]; omega, rfl⟩, fun e e1 e2 _ => hF e e1 e2⟩
    · skip
      refine ⟨hT.1.1, _, c_Table_high hTm ((hE (by omega)).sl (by omega)) (hrw _), ?_⟩
      rintro _ _ ⟨rfl, rfl⟩
      refine ⟨fun c2 => ?_, fun c2 => ?_⟩
      · skip
        have e1 : tT nq na ng nr f u i = 0 := zite_f (by assumption)
        refine T_Table_rowOfTop_40 ?_
        try simp only [t0, t1, t2, t3, t4, t5, t6, t7, t8, t9, t10]
        refine ⟨fun c1 => ?_, fun c1 => ?_⟩
        · skip
          refine ⟨hTm.1.1, _, c_Table_step hTm (hE (by omega)) ⟨by omega, by rw [hN]; omega⟩, ?_⟩
          rintro m3 ⟨hA, hB⟩
          rw [hN] at hA
          rw [iw_s (x := i + 1) (by omega) (by omega)]
          rw [iw_s (by omega) (by omega)]
          exact KL0 _ _ (by omega) ⟨by omega, fun _ => hA (by omega), by omega, by rw [zsum_1 hi0]; omega, fun e e1 e2 => by rw [hB e e1 e2]; exact hF e e1 e2⟩
        · skip
          refine ⟨fun c2 => ?_, fun c2 => ?_⟩
          · skip
            refine ⟨hTm.1.1, _, c_Table_findTopReplies (k := l) hTm ((hE (by omega)).sl (by omega)) h6 h7 (by omega), ?_⟩
            rintro m6 ⟨hA, hB⟩
            have v9 : m6 45 10 = 51 := by rw [hB 45 (by decide)]; exact t10
            have v2' : m6 45 2 = ng := by rw [hB 45 (by decide)]; exact t2
            simp only [v9, v2']
            refine ⟨hTm.1.1, hTm.1.1, ?_⟩
            refine ⟨_, c_Duo_numberOf hT.1.2.2.2.2.2.2.2.2 (by omega) (by omega) (fun q q0 q1 => by have := (hA q q0 q1).1; omega), ?_⟩
            rintro _ _ ⟨rfl, rfl⟩
            exact ⟨Or.inl ⟨i, ⟨hi0, by omega⟩, by omega, by omega, fun h => absurd h (by assumption), fun _ => ⟨_, by rw [← hl]; exact hA, rfl⟩⟩, fun e e1 e2 e3 => by rw [hB e e3]; exact hF e e1 e2⟩
          · skip
            refine ⟨hTm.1.1, hTm.1.1, ?_⟩
            refine ⟨_, hnum mm i (hE (by omega)).1, ?_⟩
            rintro _ _ ⟨rfl, rfl⟩
            exact ⟨Or.inl ⟨i, ⟨hi0, by omega⟩, by omega, by omega, fun _ => rfl, fun h => absurd (by omega) h⟩, fun e e1 e2 _ => hF e e1 e2⟩
      · skip
        refine ⟨hT.1.1, _, c_Table_topRowsFrom hTm ((hE (by omega)).sl (by omega)) ⟨by omega, by omega⟩ h6 h7, ?_⟩
        rintro _ _ ⟨rfl, rfl⟩
        have e1 : tT nq na ng nr f u i = tWays nq ng nr f (erow nq na i) 0 := zite_t (by omega)
        refine T_Table_rowOfTop_40 ?_
        try simp only [t0, t1, t2, t3, t4, t5, t6, t7, t8, t9, t10]
        refine ⟨fun c1 => ?_, fun c1 => ?_⟩
        · skip
          refine ⟨hTm.1.1, _, c_Table_step hTm (hE (by omega)) ⟨by omega, by rw [hN]; omega⟩, ?_⟩
          rintro m3 ⟨hA, hB⟩
          rw [hN] at hA
          rw [iw_s (x := i + 1) (by omega) (by omega)]
          rw [iw_s (by omega) (by omega)]
          exact KL0 _ _ (by omega) ⟨by omega, fun _ => hA (by omega), by omega, by rw [zsum_1 hi0]; omega, fun e e1 e2 => by rw [hB e e1 e2]; exact hF e e1 e2⟩
        · skip
          refine ⟨fun c2 => ?_, fun c2 => ?_⟩
          · skip
            refine ⟨hTm.1.1, _, c_Table_findTopReplies (k := l) hTm ((hE (by omega)).sl (by omega)) h6 h7 (by omega), ?_⟩
            rintro m6 ⟨hA, hB⟩
            have v9 : m6 45 10 = 51 := by rw [hB 45 (by decide)]; exact t10
            have v2' : m6 45 2 = ng := by rw [hB 45 (by decide)]; exact t2
            simp only [v9, v2']
            refine ⟨hTm.1.1, hTm.1.1, ?_⟩
            refine ⟨_, c_Duo_numberOf hT.1.2.2.2.2.2.2.2.2 (by omega) (by omega) (fun q q0 q1 => by have := (hA q q0 q1).1; omega), ?_⟩
            rintro _ _ ⟨rfl, rfl⟩
            exact ⟨Or.inl ⟨i, ⟨hi0, by omega⟩, by omega, by omega, fun h => absurd h (by assumption), fun _ => ⟨_, by rw [← hl]; exact hA, rfl⟩⟩, fun e e1 e2 e3 => by rw [hB e e3]; exact hF e e1 e2⟩
          · skip
            refine ⟨hTm.1.1, hTm.1.1, ?_⟩
            refine ⟨_, hnum mm i (hE (by omega)).1, ?_⟩
            rintro _ _ ⟨rfl, rfl⟩
            exact ⟨Or.inl ⟨i, ⟨hi0, by omega⟩, by omega, by omega, fun _ => rfl, fun h => absurd (by omega) h⟩, fun e e1 e2 _ => hF e e1 e2⟩)
  refine S_Table_rowOfTop ?_
  refine ⟨hT.1.1, _, c_Table_rows hT.1 h4 h5, ?_⟩
  rintro _ _ ⟨rfl, rfl⟩
  refine ⟨hT.1.1, _, c_Table_begin hT, ?_⟩
  rintro m6 ⟨hE0, hF0⟩
  rw [hN]
  exact L0 0 _ k (by omega) ⟨by omega, fun _ => hE0, hk.1, by rw [zsum_0]; omega, hF0⟩
