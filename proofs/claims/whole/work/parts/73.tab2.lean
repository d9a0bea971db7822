/-! TABLE, second -/
theorem load_1 {mm m1 : ZM} {na w k : Int} {f f' : Int → Int → Int → Int} (hna : 1 ≤ na) (hw : 0 ≤ w) (h0 : ∀ x, 0 ≤ x → x < k * na * w → mm 46 x = tF na w f x) (h1 : ∀ x, x < k * na * w → m1 46 x = mm 46 x) (h2 : ∀ a i, 0 ≤ a → a < na → 0 ≤ i → i < w → m1 46 ((k * na + a) * w + i) = f' k a i) (e1 : ∀ j, 0 ≤ j → j < k → f' j = f j) : ∀ x, 0 ≤ x → x < (k + 1) * na * w → m1 46 x = tF na w f' x := by
  intro x x0 x1
  have hw1 : 0 < w := by
    rcases (show w = 0 ∨ 0 < w by omega) with q | q
    · subst q; omega
    · exact q
  rcases (show x < k * na * w ∨ k * na * w ≤ x by omega) with q | q
  · rw [h1 x q, h0 x x0 q]
    unfold tF
    have a1 : x / w < k * na := Int.ediv_lt_of_lt_mul hw1 q
    have a2 : x / w / na < k := Int.ediv_lt_of_lt_mul (by omega) a1
    rw [e1 _ (Int.ediv_nonneg (Int.ediv_nonneg x0 (by omega)) (by omega)) a2]
  · have a1 : x / w < (k + 1) * na := Int.ediv_lt_of_lt_mul hw1 x1
    have a2 : k * na ≤ x / w := (Int.le_ediv_iff_mul_le hw1).2 q
    rw [mulS] at a1
    have a3 := Int.emod_nonneg x (show w ≠ 0 by omega)
    have a4 := Int.emod_lt_of_pos x hw1
    have e : x = (k * na + (x / w - k * na)) * w + x % w := by
      rw [show k * na + (x / w - k * na) = x / w by omega, Int.mul_comm]
      have := Int.mul_ediv_add_emod x w
      omega
    rw [e, h2 _ _ (by omega) (by omega) a3 a4, tF_at ⟨by omega, by omega⟩ ⟨a3, a4⟩]
def TB (kd : ZK) (m : ZM) : Prop := ∃ nq na ng nr w, TS kd m nq na ng nr w
theorem TS.put0 {kd : ZK} {m : ZM} {nq na ng nr w v : Int} (h : TS kd m nq na ng nr w) : TS kd (zup m 45 0 v) v na ng nr w := by
  obtain ⟨h1, h2, h3⟩ := h
  refine ⟨h1, ?_, ?_⟩
  · simp only [zup_at, gup_at, gup_off (show (1 : Int) ≠ 0 by decide), gup_off (show (2 : Int) ≠ 0 by decide), gup_off (show (3 : Int) ≠ 0 by decide), gup_off (show (4 : Int) ≠ 0 by decide)]
    exact ⟨trivial, h2.2⟩
  · simp only [zup_at, gup_off (show (5 : Int) ≠ 0 by decide), gup_off (show (6 : Int) ≠ 0 by decide), gup_off (show (7 : Int) ≠ 0 by decide), gup_off (show (8 : Int) ≠ 0 by decide), gup_off (show (9 : Int) ≠ 0 by decide), gup_off (show (10 : Int) ≠ 0 by decide)]
    exact h3
noncomputable def fS (G : GR) (p S n : Int) : Int → Int → Int → Int := fun k a i => fP G p (sel S n.toNat k) a i
theorem TL.congr {kd : ZK} {m : ZM} {nq na ng nr w : Int} {f f' : Int → Int → Int → Int} (h : TL kd m nq na ng nr w f) (e : ∀ q, 0 ≤ q → q < nq → f' q = f q) : TL kd m nq na ng nr w f' := by
  obtain ⟨h1, h2, h3, h4⟩ := h
  refine ⟨h1, h2, fun x x0 x1 => ?_, fun q a i q0 q1 => by rw [e q q0 q1]; exact h4 q a i q0 q1⟩
  rw [h3 x x0 x1]
  have hw1 : 0 < w := by
    rcases (show w = 0 ∨ 0 < w by have := h2.2.1; omega) with q | q
    · subst q; omega
    · exact q
  have hna := h2.1.2.1.1
  unfold tF
  rw [e _ (Int.ediv_nonneg (Int.ediv_nonneg x0 (by omega)) (by omega)) (Int.ediv_lt_of_lt_mul (by omega) (Int.ediv_lt_of_lt_mul hw1 x1))]
theorem TZ_plain {G : GR} (ho : GOK G) (ht : 0 < G 0) {p n w : Int} (hn : 0 ≤ n ∧ n ≤ 5) (hw : w = nQ G (1 - p) * nA G (1 - p)) : TZ n (nA G p) (nQ G (1 - p)) (nA G (1 - p)) w := by
  have q2 := ho.q (1 - p)
  have q3 := ho.a p
  have q4 := ho.a (1 - p)
  have t := ho.2.1 ht
  have a1 : 2 ≤ nA G p := by unfold nA; split <;> omega
  have a2 : 2 ≤ nA G (1 - p) := by unfold nA; split <;> omega
  have hw20 := zmul_in q2 q4
  rw [← hw] at hw20
  have hB := zmul_in hn q3
  have h3 := zmul_in (a := n + 1) (b := w) (A := 6) (B := 20) (by omega) (by omega)
  have h4 := zmul_in hB hw20
  exact ⟨⟨⟨by omega, by omega⟩, ⟨by omega, by omega⟩, ⟨by omega, by omega⟩, by omega, by omega⟩, ⟨hw, by omega, by omega⟩, by omega, by omega, by omega⟩
theorem c_Table_loadSome {d : Nat} {kd : ZK} {m : ZM} {g : Int} {G : GR} {p S : Int} (hT : TB kd m) (hg : CG kd m g G) (ho : GOK G) (ht : 0 < G 0) (hz : 55 < g) (hp : p = 0 ∨ p = 1) : CtV (d + 5) M_Table_loadSome [(2, 45), (2, g), (0, p), (0, S)] kd m (fun m1 => TL kd m1 (cnt S (nQ G p)) (nA G p) (nQ G (1 - p)) (nA G (1 - p)) (nQ G (1 - p) * nA G (1 - p)) (fS G p S (nQ G p)) ∧ ∀ c, c ≠ 45 → c ≠ 46 → m1 c = m c) := by
  obtain ⟨b0, b1, b2, b3, b4, hT⟩ := hT
  have q1 := ho.q p
  have q2 := ho.q (1 - p)
  have q3 := ho.a p
  have q4 := ho.a (1 - p)
  have ep : iw (1 - p) = 1 - p := iw_s (by omega) (by omega)
  have hw20 := zmul_in q2 q4
  generalize hwe : nQ G (1 - p) * nA G (1 - p) = w at *
  have hz3 := TZ_plain ho ht (p := p) (n := 0) (by omega) hwe.symm
  have hna := hz3.1.2.1
  have L0 := zfor1 (nQ G p) (fun (q : Int) (mm : ZM) => Ev (d + 5) M_Table_loadSome 0 0 27 [(2, 45), (2, g), (0, p), (0, S), (0, q)] [] kd mm (zqV kd (fun m1 => TL kd m1 (cnt S (nQ G p)) (nA G p) (nQ G (1 - p)) (nA G (1 - p)) w (fS G p S (nQ G p)) ∧ ∀ c, c ≠ 45 → c ≠ 46 → m1 c = m c))) (fun (q : Int) (mm : ZM) => 0 ≤ q ∧ TS kd mm (cnt S q) (nA G p) (nQ G (1 - p)) (nA G (1 - p)) w ∧ (∀ c, c ≠ 45 → c ≠ 46 → mm c = m c) ∧ ∀ x, 0 ≤ x → x < cnt S q * nA G p * w → mm 46 x = tF (nA G p) w (fS G p S q) x) (by
    intro q mm hb hI0 KL0
    obtain ⟨hq0, hTm, hF, hX⟩ := hI0
    have hgm : CG kd mm g G := hg.frame (fun a a1 a2 => hF a (by omega) (by omega))
    have hc := cnt_in (S := S) q hq0
    have hc1 := cnt_1 (S := S) hq0
    refine T_Table_loadSome_27 ?_
    refine ⟨hgm.1.1, _, c_Game_questionsOf hgm, ?_⟩
    rintro _ _ ⟨rfl, rfl⟩
    refine ⟨fun c1 => ?_, fun c1 => ?_⟩
    · try simp only [zb_eq0, zb_ne0] at c1
      rw [show q = nQ G p by omega] at hTm hX
      have hc2 := cnt_in (S := S) (nQ G p) q1.1
      exact ⟨⟨hTm, TZ_plain ho ht (by omega) hwe.symm, hX, fun k a i _ _ _ _ _ _ => by have := fP_in ho p (sel S (nQ G p).toNat k) a i; unfold fS; omega⟩, hF⟩
    · try simp only [zb_eq0, zb_ne0] at c1
      refine ⟨fun c2 => ?_, fun c2 => ?_⟩
      · skip
        have hs : ¬ sbit S q := by assumption
        rw [iw_s (x := q + 1) (by omega) (by omega)]
        rw [zb_f hs] at hc1
        refine KL0 mm (by omega) ⟨by omega, by rw [hc1, Int.add_zero]; exact hTm, hF, ?_⟩
        have e : (q + 1).toNat = q.toNat + 1 := by omega
        have es : sel S (q + 1).toNat = sel S q.toNat := by rw [e]; exact sel_f (by rw [show ((q.toNat : Nat) : Int) = q by omega]; exact hs)
        unfold fS
        rw [hc1, Int.add_zero, es]
        exact hX
      · skip
        refine ⟨hTm.1, _, c_Table_loadQuestion hwe.symm hTm hgm ho hz hp ⟨hq0, by omega⟩ ⟨hc.1, by omega⟩, ?_⟩
        rintro m6 ⟨hA, hB, hC⟩
        refine ⟨hTm.1, hTm.1, ?_⟩
        have hs : sbit S q := Classical.not_not.1 (by assumption)
        rw [zb_t hs] at hc1
        have h45 : m6 45 0 = cnt S q := by rw [hA 45 (by decide)]; exact hTm.2.1.1
        rw [iw_s (x := q + 1) (by omega) (by omega), h45, iw_s (x := cnt S q + 1) (by omega) (by omega)]
        have hT5 := (hTm.frame (m' := m6) (hA 45 (by decide))).put0 (v := cnt S q + 1)
        rw [hc1.symm] at hT5 ⊢
        refine KL0 _ (by omega) ⟨by omega, hT5, fun c x1 x2 => by rw [zup_off x1, hA c x2]; exact hF c x1 x2, ?_⟩
        rw [zup_off (show (46 : Int) ≠ 45 by decide), hc1]
        have e : (q + 1).toNat = q.toNat + 1 := by omega
        have en : ((q.toNat : Nat) : Int) = q := by omega
        have es : sel S (q + 1).toNat = zput (sel S q.toNat) (cnt S q) q := by rw [e, sel_t (by rw [en]; exact hs), en]
        refine load_1 hna.1 (by omega) hX hB (fun a i a1 a2 i1 i2 => ?_) (fun j j1 j2 => ?_)
        · rw [hC a i a1 a2 i1 i2]
          unfold fS
          rw [es, zput, if_pos rfl]
        · unfold fS
          rw [es]
          funext a i
          rw [zput, if_neg (by omega)])
  refine S_Table_loadSome ?_
  simp only [ep]
  refine ⟨hg.1.1, _, c_Game_answersOf hg, ?_⟩
  rintro _ _ ⟨rfl, rfl⟩
  refine ⟨hg.1.1, _, c_Game_questionsOf hg, ?_⟩
  rintro _ _ ⟨rfl, rfl⟩
  refine ⟨hg.1.1, _, c_Game_answersOf hg, ?_⟩
  rintro _ _ ⟨rfl, rfl⟩
  refine ⟨hT.1, _, c_Table_setSizes hT (by omega), ?_⟩
  rintro m12 ⟨hA, hB⟩
  rw [hwe] at hA
  exact L0 0 _ (by omega) ⟨by omega, hA, fun c c1 c2 => hB c c1, fun x x0 x1 => by rw [show cnt S 0 = 0 from rfl, Int.zero_mul, Int.zero_mul] at x1; omega⟩
theorem c_Table_loadPlain {d : Nat} {kd : ZK} {m : ZM} {g : Int} {G : GR} {p : Int} (hT : TB kd m) (hg : CG kd m g G) (ho : GOK G) (ht : 0 < G 0) (hz : 55 < g) (hp : p = 0 ∨ p = 1) : CtV (d + 6) M_Table_loadSome [(2, 45), (2, g), (0, p), (0, 31)] kd m (fun m1 => TL kd m1 (nQ G p) (nA G p) (nQ G (1 - p)) (nA G (1 - p)) (nQ G (1 - p) * nA G (1 - p)) (fP G p) ∧ ∀ c, c ≠ 45 → c ≠ 46 → m1 c = m c) := by
  have q1 := ho.q p
  have s31 := sel_31 (nQ G p).toNat (by omega)
  rw [show (((nQ G p).toNat : Nat) : Int) = nQ G p by omega] at s31
  obtain ⟨b0, b1, b2, b3, b4, hT1⟩ := hT
  refine Ct.mono (fun r_q kd_q m_q h_q => ?_) (c_Table_loadSome (p := p) (S := 31) ⟨_, _, _, _, _, hT1⟩ hg ho ht hz hp)
  obtain ⟨e1_q, e2_q, hA, hB⟩ := h_q
  rw [s31.1] at hA
  exact ⟨e1_q, e2_q, hA.congr (fun q h1 h2 => by unfold fS; funext a i; rw [s31.2 q h1 h2]), hB⟩
theorem pw_in {na : Int} (h : 1 ≤ na ∧ na ≤ 4) {n : Nat} (hn : n ≤ 5) : 1 ≤ na ^ n ∧ na ^ n ≤ 1024 := by
  have h1 : na = 1 ∨ na = 2 ∨ na = 3 ∨ na = 4 := by omega
  have h2 : n = 0 ∨ n = 1 ∨ n = 2 ∨ n = 3 ∨ n = 4 ∨ n = 5 := by omega
  rcases h1 with e | e | e | e <;> subst e <;> rcases h2 with e | e | e | e | e | e <;> subst e <;> decide
theorem c_Table_rows {d : Nat} {kd : ZK} {m : ZM} {nq na ng nr w : Int} (hT : TS kd m nq na ng nr w) (h4 : 1 ≤ na ∧ na ≤ 4) (h5 : 0 ≤ nq ∧ nq ≤ 5) : CtI (d + 1) M_Table_rows [(2, 45)] kd m (qE m (na ^ nq.toNat)) := by
  have t0 := hT.2.1.1
  have t1 := hT.2.1.2.1
  have t2 := hT.2.1.2.2.1
  have t3 := hT.2.1.2.2.2.1
  have t4 := hT.2.1.2.2.2.2
  have t5 := hT.2.2.1.1
  have t6 := hT.2.2.1.2.1
  have t7 := hT.2.2.1.2.2.1
  have t8 := hT.2.2.1.2.2.2.1
  have t9 := hT.2.2.1.2.2.2.2.1
  have t10 := hT.2.2.1.2.2.2.2.2
  have L0 := zfor1 (nq) (fun (i : Int) (t : Int) => Ev (d + 1) M_Table_rows 0 0 4 [(2, 45), (0, t), (0, i)] [] kd m (zqI kd (qE m (na ^ nq.toNat)))) (fun (i : Int) (t : Int) => 0 ≤ i ∧ t = na ^ i.toNat) (by
    intro i t hb hI0 KL0
    obtain ⟨hi0, ht⟩ := hI0
    have hb := pw_in h4 (n := i.toNat) (by omega)
    have hb2 := zmul_in (a := t) (b := na) (A := 1024) (B := 4) (by omega) (by omega)
    refine T_Table_rows_4 ?_
    try simp only [t0, t1, t2, t3, t4, t5, t6, t7, t8, t9, t10]
    refine ⟨hT.1, ?_⟩
    refine ⟨fun c1 => ?_, fun c1 => ?_⟩
    · skip
      exact ⟨by rw [ht, show i = nq by omega], rfl⟩
    · skip
      refine ⟨hT.1, ?_⟩
      rw [iw_s (x := i + 1) (by omega) (by omega)]
      rw [iw_s (by omega) (by omega)]
      exact KL0 _ (by omega) ⟨by omega, by rw [show (i + 1).toNat = i.toNat + 1 by omega, Int.pow_succ, ht]⟩)
  refine S_Table_rows ?_
  exact L0 0 1 (by omega) ⟨by omega, by simp⟩
theorem c_Table_clearFirstSums {d : Nat} {kd : ZK} {m : ZM} {nq na ng nr w : Int} (hT : TS kd m nq na ng nr w) (hw : 0 ≤ w ∧ w ≤ 400) : CtV (d + 1) M_Table_clearFirstSums [(2, 45)] kd m (fun m1 => (∀ c, c ≠ 47 → m1 c = m c) ∧ (∀ i, 0 ≤ i → i < w → m1 47 i = 0)) := by
  have L0 := zfor1 (w) (fun (i : Int) (mm : ZM) => Ev (d + 1) M_Table_clearFirstSums 0 0 2 [(2, 45), (0, i)] [] kd mm (zqV kd (fun m1 => (∀ c, c ≠ 47 → m1 c = m c) ∧ (∀ i, 0 ≤ i → i < w → m1 47 i = 0)))) (fun (i : Int) (mm : ZM) => 0 ≤ i ∧ (∀ c, c ≠ 47 → mm c = m c) ∧ ∀ j, 0 ≤ j → j < i → mm 47 j = 0) (by
    intro i mm hb hI0 KL0
    obtain ⟨hi0, hF, hZ⟩ := hI0
    have hTm := hT.frame (hF 45 (by decide))
    have t0 := hTm.2.1.1
    have t1 := hTm.2.1.2.1
    have t2 := hTm.2.1.2.2.1
    have t3 := hTm.2.1.2.2.2.1
    have t4 := hTm.2.1.2.2.2.2
    have t5 := hTm.2.2.1.1
    have t6 := hTm.2.2.1.2.1
    have t7 := hTm.2.2.1.2.2.1
    have t8 := hTm.2.2.1.2.2.2.1
    have t9 := hTm.2.2.1.2.2.2.2.1
    have t10 := hTm.2.2.1.2.2.2.2.2
    refine T_Table_clearFirstSums_2 ?_
    try simp only [t0, t1, t2, t3, t4, t5, t6, t7, t8, t9, t10]
    refine ⟨hTm.1, ?_⟩
    refine ⟨fun c1 => ?_, fun c1 => ?_⟩
    · skip
      exact ⟨hF, fun j j1 j2 => hZ j j1 (by omega)⟩
    · skip
      refine ⟨hTm.1, (hTm.i47 (by omega) (by omega)), ?_⟩
      rw [iw_s (x := i + 1) (by omega) (by omega)]
      refine KL0 _ (by omega) ⟨by omega, fun c hc => by rw [zup_off hc]; exact hF c hc, fun j j1 j2 => ?_⟩
      rw [zup_at]
      rcases (show j = i ∨ j < i by omega) with q | q
      · rw [q, gup_at]
      · rw [gup_off (by omega)]; exact hZ j j1 q)
  refine S_Table_clearFirstSums ?_
  exact L0 0 m (by omega) ⟨by omega, fun _ _ => rfl, fun j j1 j2 => by omega⟩
theorem c_Table_addLine {d : Nat} {kd : ZK} {m : ZM} {nq na ng nr w : Int} {f : Int → Int → Int → Int} {l a : Int} (hT : TL kd m nq na ng nr w f) (hl : 0 ≤ l ∧ l < nq) (ha : 0 ≤ a ∧ a < na) (hbd : ∀ i, 0 ≤ i → i < w → -10000 ≤ m 47 (l * w + i) ∧ m 47 (l * w + i) ≤ 10000) : CtV (d + 1) M_Table_addLine [(2, 45), (0, l), (0, a)] kd m (fun m1 => (∀ c, c ≠ 47 → m1 c = m c) ∧ (∀ x, x < (l + 1) * w → m1 47 x = m 47 x) ∧ ∀ i, 0 ≤ i → i < w → m1 47 ((l + 1) * w + i) = m 47 (l * w + i) + f l a i) := by
  have hZ := hT.2.1
  have h1 := hZ.ix hl ha
  have h2 := hZ.ln (n := l) (by omega)
  have h3 := hZ.ln (n := l + 1) (by omega)
  have hw := hZ.2.1
  rw [mulS] at h3
  have L0 := zfor1 (w) (fun (i : Int) (mm : ZM) => Ev (d + 1) M_Table_addLine 0 0 33 [(2, 45), zJ, zJ, (0, (l * w)), (0, (l * w + w)), (0, ((l * na + a) * w)), (0, i)] [] kd mm (zqV kd (fun m1 => (∀ c, c ≠ 47 → m1 c = m c) ∧ (∀ x, x < (l + 1) * w → m1 47 x = m 47 x) ∧ ∀ i, 0 ≤ i → i < w → m1 47 ((l + 1) * w + i) = m 47 (l * w + i) + f l a i))) (fun (i : Int) (mm : ZM) => 0 ≤ i ∧ (∀ c, c ≠ 47 → mm c = m c) ∧ (∀ x, x < l * w + w → mm 47 x = m 47 x) ∧ ∀ j, 0 ≤ j → j < i → mm 47 (l * w + w + j) = m 47 (l * w + j) + f l a j) (by
    intro i mm hb hI0 KL0
    obtain ⟨hi0, hF, hX, hY⟩ := hI0
    have hTm := hT.1.frame (hF 45 (by decide))
    have i1 : iw (l * w + i) = l * w + i ∨ w ≤ i := by rcases (show i < w ∨ w ≤ i by omega) with q | q; exact Or.inl (iw_s (by omega) (by omega)); exact Or.inr q
    have i2 : iw ((l * na + a) * w + i) = (l * na + a) * w + i ∨ w ≤ i := by rcases (show i < w ∨ w ≤ i by omega) with q | q; exact Or.inl (iw_s (by omega) (by omega)); exact Or.inr q
    have i3 : iw (l * w + w + i) = l * w + w + i ∨ w ≤ i := by rcases (show i < w ∨ w ≤ i by omega) with q | q; exact Or.inl (iw_s (by omega) (by omega)); exact Or.inr q
    have t0 := hTm.2.1.1
    have t1 := hTm.2.1.2.1
    have t2 := hTm.2.1.2.2.1
    have t3 := hTm.2.1.2.2.2.1
    have t4 := hTm.2.1.2.2.2.2
    have t5 := hTm.2.2.1.1
    have t6 := hTm.2.2.1.2.1
    have t7 := hTm.2.2.1.2.2.1
    have t8 := hTm.2.2.1.2.2.2.1
    have t9 := hTm.2.2.1.2.2.2.2.1
    have t10 := hTm.2.2.1.2.2.2.2.2
    refine T_Table_addLine_33 ?_
    try simp only [t0, t1, t2, t3, t4, t5, t6, t7, t8, t9, t10]
    refine ⟨hTm.1, ?_⟩
    refine ⟨fun c1 => ?_, fun c1 => ?_⟩
    · skip
      exact ⟨hF, fun x hx => hX x (by rw [mulS] at hx; exact hx), fun j j1 j2 => by rw [mulS]; exact hY j j1 (by omega)⟩
    · skip
      refine ⟨hTm.1, hTm.1, (hTm.i47 (by omega) (by omega)), hTm.1, (hTm.i46 (by omega) (by omega)), (hTm.i47 (by omega) (by omega)), ?_⟩
      rw [iw_s (x := i + 1) (by omega) (by omega)]
      have hbi := hbd i hi0 (by omega)
      have hgi := hT.2.2.2 l a i hl.1 hl.2 ha.1 ha.2 hi0 (by omega)
      rw [i1.resolve_right (by omega), i2.resolve_right (by omega), i3.resolve_right (by omega), hX _ (by omega), hF 46 (by decide), hT.gain hl ha ⟨hi0, by omega⟩, iw_s (x := m 47 (l * w + i) + f l a i) (by omega) (by omega)]
      refine KL0 _ (by omega) ⟨by omega, fun c hc => by rw [zup_off hc]; exact hF c hc, fun x hx => by rw [zup_at, gup_off (by omega)]; exact hX x hx, fun j j1 j2 => ?_⟩
      rw [zup_at]
      rcases (show j = i ∨ j < i by omega) with q | q
      · rw [q, gup_at]
      · rw [gup_off (by omega)]; exact hY j j1 q)
  have t0 := hT.1.2.1.1
  have t1 := hT.1.2.1.2.1
  have t2 := hT.1.2.1.2.2.1
  have t3 := hT.1.2.1.2.2.2.1
  have t4 := hT.1.2.1.2.2.2.2
  have t5 := hT.1.2.2.1.1
  have t6 := hT.1.2.2.1.2.1
  have t7 := hT.1.2.2.1.2.2.1
  have t8 := hT.1.2.2.1.2.2.2.1
  have t9 := hT.1.2.2.1.2.2.2.2.1
  have t10 := hT.1.2.2.1.2.2.2.2.2
  refine S_Table_addLine ?_
  try simp only [t0, t1, t2, t3, t4, t5, t6, t7, t8, t9, t10]
  refine ⟨hT.1.1, hT.1.1, hT.1.1, hT.1.1, ?_⟩
  rw [iw_s (x := l * w) (by omega) (by omega), iw_s (x := l * w + w) (by omega) (by omega), iw_s (x := l * na) (by omega) (by omega), iw_s (x := l * na + a) (by omega) (by omega), iw_s (x := (l * na + a) * w) (by omega) (by omega)]
  exact L0 0 m (by omega) ⟨by omega, fun _ _ => rfl, fun _ _ => rfl, fun j j1 j2 => by omega⟩
