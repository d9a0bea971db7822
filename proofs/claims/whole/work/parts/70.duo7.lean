/-! DUO, seventh: the climb; boxes -/
abbrev CS : Type := (Int → Int) × (Int → Int) × Int × Int × Int × Int
/-- rows, what they are worth, how often taken, how often not, who is next -/
def clStep (G : GR) (c : CS) : CS :=
  let o := if c.2.2.2.2.2 = 0 then c.2.1 else c.1
  let w := wBest G c.2.2.2.2.2 o
  if c.2.2.1 < w then (if c.2.2.2.2.2 = 0 then bA G 0 o else c.1, if c.2.2.2.2.2 = 0 then c.2.1 else bA G 1 o, w, c.2.2.2.1 + 1, 0, 1 - c.2.2.2.2.2)
  else (c.1, c.2.1, c.2.2.1, c.2.2.2.1, c.2.2.2.2.1 + 1, 1 - c.2.2.2.2.2)
def clIt (G : GR) : Nat → CS → CS
  | 0, c => c
  | n + 1, c => clStep G (clIt G n c)
def clI (G : GR) (c : CS) (n : Nat) (r s : Int → Int) (z : Int × Int × Int × Int) : Prop := clIt G n c = (r, s, z) ∧ (isRw G 0 r ∧ isRw G 1 s) ∧ z.1 = wBoth G r s ∧ ((n : Int) ≤ 2 * z.2.1 + z.2.2.1 ∧ 0 ≤ z.2.1 ∧ z.2.1 ≤ z.1) ∧ (0 ≤ z.2.2.1 ∧ z.2.2.1 ≤ 2) ∧ (z.2.2.2 = 0 ∨ z.2.2.2 = 1) ∧ ∀ k, k < n → (clIt G k c).2.2.2.2.1 < 2
theorem clI_eq {G : GR} {c : CS} {n n' : Nat} {r s r' s' : Int → Int} {z z' : Int × Int × Int × Int} (h : clI G c n r s z) (h' : clI G c n' r' s' z') (e : z.2.2.1 = 2) (e' : z'.2.2.1 = 2) : r = r' ∧ s = s' ∧ z = z' := by
  have key : n = n' := by
    rcases (show n < n' ∨ n = n' ∨ n' < n by omega) with q | q | q
    · have := h'.2.2.2.2.2.2 n q
      rw [h.1] at this
      simp only [] at this
      omega
    · exact q
    · have := h.2.2.2.2.2.2 n' q
      rw [h'.1] at this
      simp only [] at this
      omega
  subst key
  have := h.1.symm.trans h'.1
  simp only [Prod.mk.injEq] at this
  exact ⟨this.1, this.2.1, by ext <;> simp [this.2.2]⟩
theorem wBoth_sw {G : GR} {r s : Int → Int} : wBoth G r s = zsum (G 1).toNat fun y => wAt G 1 y (s y) r := by
  unfold wBoth wAt
  rw [show nQ G (1 - 0) = G 1 from rfl, show nQ G (1 - 1) = G 0 from rfl]
  exact zsum_swap _ _
theorem wBoth_in {G : GR} (ho : GOK G) (r s : Int → Int) : 0 ≤ wBoth G r s ∧ wBoth G r s ≤ 225 := by
  have h := zsum_le (C := 45) (f := fun x => wAt G 0 x (r x) s) (by decide) (fun x => wAt_in ho 0 x _ _) (G 0).toNat
  have := ho.1
  unfold wBoth
  omega
theorem wBest_0 {G : GR} {s : Int → Int} : wBest G 0 s = wBoth G (bA G 0 s) s := by
  unfold wBest wBoth
  exact zsum_congr _ (fun q h1 h2 => (zam_at (h := fun a => wAt G 0 q a s) (nA G 0 - 1).toNat).symm)
theorem wBest_1 {G : GR} {r : Int → Int} : wBest G 1 r = wBoth G r (bA G 1 r) := by
  rw [wBoth_sw]
  unfold wBest
  exact zsum_congr _ (fun q h1 h2 => (zam_at (h := fun a => wAt G 1 q a r) (nA G 1 - 1).toNat).symm)
theorem bA_congr {G : GR} {p : Int} {r s : Int → Int} (h : ∀ q, 0 ≤ q → q < nQ G (1 - p) → r q = s q) (q : Int) : bA G p r q = bA G p s q := by
  unfold bA
  exact zam_congr _ (fun j _ _ => wAt_congr h)
theorem wBest_congr {G : GR} {p : Int} {r s : Int → Int} (h : ∀ q, 0 ≤ q → q < nQ G (1 - p) → r q = s q) : wBest G p r = wBest G p s := by
  unfold wBest
  exact zsum_congr _ (fun q _ _ => zhi_congr _ (fun j _ _ => wAt_congr h))
theorem wBoth_congr {G : GR} {r s r' s' : Int → Int} (h : ∀ q, 0 ≤ q → q < G 0 → r q = r' q) (k : ∀ q, 0 ≤ q → q < G 1 → s q = s' q) : wBoth G r s = wBoth G r' s' := by
  unfold wBoth
  exact zsum_congr _ (fun q h1 h2 => by rw [h q h1 (by omega)]; exact wAt_congr k)
theorem clI_0 {G : GR} {r s : Int → Int} (hr : isRw G 0 r) (hs : isRw G 1 s) (ho : GOK G) : clI G (r, s, wBoth G r s, 0, 0, 1) 0 r s (wBoth G r s, 0, 0, 1) := by
  have := wBoth_in ho r s
  exact ⟨rfl, ⟨hr, hs⟩, rfl, ⟨show (0 : Int) ≤ 2 * 0 + 0 by decide, show (0 : Int) ≤ 0 by decide, this.1⟩, ⟨show (0 : Int) ≤ 0 by decide, show (0 : Int) ≤ 2 by decide⟩, Or.inr rfl, fun k hk => by omega⟩
theorem clI_n {G : GR} {c : CS} {n : Nat} {r s : Int → Int} {z : Int × Int × Int × Int} (h : clI G c n r s z) (ho : GOK G) : (n : Int) ≤ 452 := by
  have h1 := wBoth_in ho r s
  have h2 := h.2.2.1
  have h3 := h.2.2.2.1
  have h4 := h.2.2.2.2.1
  omega
theorem clI_no {G : GR} {c : CS} {n : Nat} {r s : Int → Int} {w t i p : Int} (h : clI G c n r s (w, t, i, p)) (hi : i < 2) (hw : wBest G p (if p = 0 then s else r) ≤ w) : clI G c (n + 1) r s (w, t, i + 1, 1 - p) := by
  obtain ⟨h1, h2, h3, h4, h5, h6, h7⟩ := h
  simp only [] at h3 h4 h5 h6 hi
  refine ⟨?_, h2, h3, ⟨by simp only []; omega, h4.2⟩, ⟨by simp only []; omega, by simp only []; omega⟩, by simp only []; omega, fun k hk => ?_⟩
  · rw [clIt, h1, clStep]
    simp only []
    rw [if_neg (by omega)]
  · rcases (show k < n ∨ k = n by omega) with q | q
    · exact h7 k q
    · rw [q, h1]; exact hi
theorem clI_y0 {G : GR} {c : CS} {n : Nat} {r s : Int → Int} {w t i : Int} (h : clI G c n r s (w, t, i, 0)) (hi : i < 2) (ha : 1 ≤ G 2) (hw : w < wBest G 0 s) : clI G c (n + 1) (bA G 0 s) s (wBest G 0 s, t + 1, 0, 1) := by
  obtain ⟨h1, h2, h3, h4, h5, h6, h7⟩ := h
  simp only [] at h3 h4 h5 hi
  refine ⟨?_, ⟨bA_rw ha, h2.2⟩, wBest_0, ⟨by simp only []; omega, by simp only []; omega, by simp only []; omega⟩, ⟨show (0 : Int) ≤ 0 by decide, show (0 : Int) ≤ 2 by decide⟩, Or.inr rfl, fun k hk => ?_⟩
  · rw [clIt, h1, clStep]
    simp only [if_true]
    rw [if_pos hw]
    rfl
  · rcases (show k < n ∨ k = n by omega) with q | q
    · exact h7 k q
    · rw [q, h1]; exact hi
theorem clI_y1 {G : GR} {c : CS} {n : Nat} {r s : Int → Int} {w t i : Int} (h : clI G c n r s (w, t, i, 1)) (hi : i < 2) (ha : 1 ≤ G 3) (hw : w < wBest G 1 r) : clI G c (n + 1) r (bA G 1 r) (wBest G 1 r, t + 1, 0, 0) := by
  obtain ⟨h1, h2, h3, h4, h5, h6, h7⟩ := h
  simp only [] at h3 h4 h5 hi
  refine ⟨?_, ⟨h2.1, bA_rw ha⟩, wBest_1, ⟨by simp only []; omega, by simp only []; omega, by simp only []; omega⟩, ⟨show (0 : Int) ≤ 0 by decide, show (0 : Int) ≤ 2 by decide⟩, Or.inl rfl, fun k hk => ?_⟩
  · rw [clIt, h1, clStep]
    simp only [if_neg (show ¬ (1 : Int) = 0 by decide)]
    rw [if_pos hw]
    rfl
  · rcases (show k < n ∨ k = n by omega) with q | q
    · exact h7 k q
    · rw [q, h1]; exact hi
/-- rows r and s lie at a and b -/
def RE (G : GR) (m : ZM) (a b : Int) (r s : Int → Int) : Prop := (∀ q, 0 ≤ q → q < G 0 → m a q = r q) ∧ ∀ q, 0 ≤ q → q < G 1 → m b q = s q
theorem RE.rw {G : GR} {m : ZM} {a b : Int} {r s : Int → Int} (h : RE G m a b r s) (h1 : isRw G 0 r) (h2 : isRw G 1 s) : isRw G 0 (m a) ∧ isRw G 1 (m b) := ⟨fun q q1 q2 => by rw [h.1 q q1 q2]; exact h1 q q1 q2, fun q q1 q2 => by rw [h.2 q q1 q2]; exact h2 q q1 q2⟩
/-- a climb from r and s comes to r1, s1 -/
def isCl (G : GR) (r s r1 s1 : Int → Int) (t : Int) : Prop := ∃ n z, clI G (r, s, wBoth G r s, 0, 0, 1) n r1 s1 z ∧ z.2.2.1 = 2 ∧ z.2.1 = t
theorem isCl_eq {G : GR} {r s r1 s1 r2 s2 : Int → Int} {t t2 : Int} (h : isCl G r s r1 s1 t) (k : isCl G r s r2 s2 t2) : r1 = r2 ∧ s1 = s2 ∧ t = t2 := by
  obtain ⟨n, z, h1, h2, h3⟩ := h
  obtain ⟨n', z', k1, k2, k3⟩ := k
  have e := clI_eq h1 k1 h2 k2
  refine ⟨e.1, e.2.1, ?_⟩
  rw [← h3, ← k3, e.2.2]
theorem c_Duo_climbUp {d : Nat} {kd : ZK} {m : ZM} {g : Int} {G : GR} {r s : Int → Int} (hd : DU kd m) (hg : CG kd m g G) (ho : GOK G) (hz : 55 < g) (ha : 1 ≤ G 2 ∧ 1 ≤ G 3) (hr : isRw G 0 r) (hs : isRw G 1 s) (he : RE G m 53 54 r s) : CtI (d + 6) M_Duo_climbUp [(2, 52), (2, g)] kd m (fun x m1 => (∃ r1 s1, isCl G r s r1 s1 x ∧ isRw G 0 r1 ∧ isRw G 1 s1 ∧ RE G m1 53 54 r1 s1) ∧ ∀ c, (c < 53 ∨ 55 < c) → m1 c = m c) := by
  have hrs := he.rw hr hs
  have key : ∀ mm : ZM, (∀ c, (c < 53 ∨ 55 < c) → mm c = m c) → DU kd mm ∧ CG kd mm g G := fun mm h => ⟨hd.frame (h 52 (by decide)), hg.frame (fun a a1 a2 => h a (by omega))⟩
  have L0 := zfor2 (1000) (fun (i : Int) (mm : ZM) (z : Int × Int × Int × Int) => Ev (d + 6) M_Duo_climbUp 0 0 17 [(2, 52), (2, g), (0, z.1), (0, z.2.1), (0, z.2.2.1), (0, z.2.2.2), (0, i), zJ] [] kd mm (zqI kd (fun x m1 => (∃ r1 s1, isCl G r s r1 s1 x ∧ isRw G 0 r1 ∧ isRw G 1 s1 ∧ RE G m1 53 54 r1 s1) ∧ ∀ c, (c < 53 ∨ 55 < c) → m1 c = m c))) (fun (i : Int) (mm : ZM) (z : Int × Int × Int × Int) => 0 ≤ i ∧ (∀ c, (c < 53 ∨ 55 < c) → mm c = m c) ∧ ∃ r1 s1, clI G (r, s, wBoth G r s, 0, 0, 1) i.toNat r1 s1 z ∧ RE G mm 53 54 r1 s1) (by
    intro i mm z hb hI0 KL0
    obtain ⟨w, t, j, p⟩ := z
    obtain ⟨hi0, hF, r1, s1, hC, hE⟩ := hI0
    have k0 := key mm hF
    have hn := clI_n hC ho
    have hww := wBoth_in ho r1 s1
    have hrw := hE.rw hC.2.1.1 hC.2.1.2
    have hC1 := hC.2.2.1
    have hC2 := hC.2.2.2.1
    have hC3 := hC.2.2.2.2.1
    have hp := hC.2.2.2.2.2.1
    simp only [] at hC1 hC2 hC3 hp ⊢
    have ho2 : isRw G (1 - p) (mm (rwD (1 - p))) := by
      rcases hp with q | q <;> subst q
      · exact hrw.2
      · exact hrw.1
    have hbw : wBest G p (mm (rwD (1 - p))) = wBest G p (if p = 0 then s1 else r1) := by
      rcases hp with q | q <;> subst q
      · exact wBest_congr (p := 0) (fun q q1 q2 => hE.2 q q1 q2)
      · exact wBest_congr (p := 1) (fun q q1 q2 => hE.1 q q1 q2)
    refine T_Duo_climbUp_17 ?_
    refine ⟨fun c1 => ?_, fun c1 => ?_⟩
    · try rw [hbw] at c1
      first | exact absurd hn (by omega) | exact ⟨⟨r1, s1, ⟨i.toNat, _, hC, by simp only []; omega, rfl⟩, hC.2.1.1, hC.2.1.2, hE⟩, hF⟩
    · try rw [hbw] at c1
      refine ⟨fun c2 => ?_, fun c2 => ?_⟩
      · try rw [hbw] at c2
        first | exact absurd hn (by omega) | exact ⟨⟨r1, s1, ⟨i.toNat, _, hC, by simp only []; omega, rfl⟩, hC.2.1.1, hC.2.1.2, hE⟩, hF⟩
      · try rw [hbw] at c2
        refine ⟨k0.1.1.1, _, c_Duo_answerBest k0.1 k0.2 ho hz hp (by unfold nA; split <;> omega) ho2, ?_⟩
        rintro x2 m3 ⟨rfl, hF2, hB2⟩
        have k2 := key m3 (fun c hc => by rw [hF2 c (by omega)]; exact hF c hc)
        have k55 : m3 52 2 = 55 := k2.1.1.2.2.2
        refine ⟨fun c3 => ?_, fun c3 => ?_⟩
        · try rw [hbw] at c3
          rw [iw_s (x := i + 1) (by omega) (by omega), iw_s (x := j + 1) (by omega) (by omega), iw_s (x := 1 - p) (by omega) (by omega)]
          refine KL0 m3 (w, t, j + 1, 1 - p) (by omega) ⟨by omega, fun c hc => by rw [hF2 c (by omega)]; exact hF c hc, r1, s1, ?_, ?_⟩
          · rw [show (i + 1).toNat = i.toNat + 1 by omega]; exact clI_no hC (by omega) (by assumption)
          · exact ⟨fun q q1 q2 => by rw [hF2 53 (by decide)]; exact hE.1 q q1 q2, fun q q1 q2 => by rw [hF2 54 (by decide)]; exact hE.2 q q1 q2⟩
        · try rw [hbw] at c3
          refine ⟨k0.1.1.1, ?_⟩
          refine ⟨k0.1.1.1, _, c_Duo_answersBy k2.1, ?_⟩
          rintro _ _ ⟨rfl, rfl⟩
          refine ⟨_, _, by rw [k55]; exact k2.1.2.2.2, k2.1.row p, by decide, by decide, by decide, by decide, by decide, ?_⟩
          have hG0 := ho.1
          rw [iw_s (x := i + 1) (by omega) (by omega), iw_s (x := t + 1) (by omega) (by omega), iw_s (x := 1 - p) (by omega) (by omega), hbw, k55]
          have hcp : ∀ c, c ≠ rwD p → (zcpy m3 55 0 (rwD p) 0 5) c = m3 c := fun c hc => by funext k; unfold zcpy; rw [if_neg (fun q => hc q.1)]
          have hcr : ∀ k, 0 ≤ k → k < 5 → (zcpy m3 55 0 (rwD p) 0 5) (rwD p) k = m3 55 k := fun k k1 k2 => by unfold zcpy; rw [if_pos ⟨rfl, by omega, by omega⟩]; congr 1; omega
          rcases hp with q | q <;> subst q
          · rw [show rwD 0 = 53 from rfl] at hcp hcr
            refine KL0 _ (wBest G 0 s1, t + 1, 0, 1) (by omega) ⟨by omega, fun c hc => by rw [show rwD 0 = 53 from rfl, hcp c (by omega), hF2 c (by omega)]; exact hF c hc, bA G 0 s1, s1, ?_, ?_⟩
            · rw [show (i + 1).toNat = i.toNat + 1 by omega]; exact clI_y0 hC (by omega) ha.1 (by simp only [if_true] at *; omega)
            · refine ⟨fun q q1 q2 => ?_, fun q q1 q2 => ?_⟩
              · rw [show rwD 0 = 53 from rfl, hcr q q1 (by omega), hB2 q q1 q2]; exact bA_congr (p := 0) (fun q q1 q2 => hE.2 q q1 q2) q
              · rw [show rwD 0 = 53 from rfl, hcp 54 (by decide), hF2 54 (by decide)]; exact hE.2 q q1 q2
          · rw [show rwD 1 = 54 from rfl] at hcp hcr
            refine KL0 _ (wBest G 1 r1, t + 1, 0, 0) (by omega) ⟨by omega, fun c hc => by rw [show rwD 1 = 54 from rfl, hcp c (by omega), hF2 c (by omega)]; exact hF c hc, r1, bA G 1 r1, ?_, ?_⟩
            · rw [show (i + 1).toNat = i.toNat + 1 by omega]; exact clI_y1 hC (by omega) ha.2 (by simp only [if_neg (show ¬ (1 : Int) = 0 by decide)] at *; omega)
            · refine ⟨fun q q1 q2 => ?_, fun q q1 q2 => ?_⟩
              · rw [show rwD 1 = 54 from rfl, hcp 53 (by decide), hF2 53 (by decide)]; exact hE.1 q q1 q2
              · rw [show rwD 1 = 54 from rfl, hcr q q1 (by omega), hB2 q q1 q2]; exact bA_congr (p := 1) (fun q q1 q2 => hE.1 q q1 q2) q)
  refine S_Duo_climbUp ?_
  refine ⟨hd.1.1, _, c_Duo_worthBoth hd hg ho hrs.1 hrs.2, ?_⟩
  rintro _ _ ⟨rfl, rfl⟩
  rw [wBoth_congr he.1 he.2]
  exact L0 0 m (wBoth G r s, 0, 0, 1) (by omega) ⟨by omega, fun _ _ => rfl, r, s, clI_0 hr hs ho, he⟩
def opMix (G : GR) (r s : Int → Int) (n : Int) : GR := zfold (G 0).toNat (fun x H => zfold (G 1).toNat (fun y K => gup K (429 + zS 0 x y (r x) (s y)) (K (429 + zS 0 x y (r x) (s y)) + n)) H) G
/-- what is not reached is as it was -/
def mxU (G K : GR) (r s : Int → Int) (a b : Int) : Prop := ∀ x y, 0 ≤ x → x < G 0 → 0 ≤ y → y < G 1 → (a < x ∨ a = x ∧ b ≤ y) → K (429 + zS 0 x y (r x) (s y)) = G (429 + zS 0 x y (r x) (s y))
theorem mxU_1 {G K : GR} {r s : Int → Int} {a b v : Int} (ho : GOK G) (hr : isRw G 0 r) (hs : isRw G 1 s) (ha : 0 ≤ a ∧ a < G 0) (hb : 0 ≤ b ∧ b < G 1) (h : mxU G K r s a b) : mxU G (gup K (429 + zS 0 a b (r a) (s b)) v) r s a (b + 1) := fun x y x1 x2 y1 y2 z => by
  have h0 := ho.1
  have r1 := hr x x1 x2
  have r2 := hr a ha.1 ha.2
  have s1 := hs y y1 y2
  have s2 := hs b hb.1 hb.2
  rw [show nA G 0 = G 2 from rfl] at r1 r2
  rw [show nA G 1 = G 3 from rfl] at s1 s2
  rw [gup_off (fun e => ?_)]
  · exact h x y x1 x2 y1 y2 (by omega)
  · have := zS_inj (p := 0) (x := x) (y := y) (a := r x) (b := s y) (u := a) (v := b) (c := r a) (e := s b) (by omega) (by omega) (by omega) (by omega) (by omega) (by omega) (by omega) (by omega) (by omega)
    omega
theorem c_Duo_addToBoxes {d : Nat} {kd : ZK} {m : ZM} {g : Int} {G : GR} {r s : Int → Int} {n : Int} (hd : DU kd m) (hg : CG kd m g G) (ho : GOK G) (hz : 55 < g) (hr : isRw G 0 r) (hs : isRw G 1 s) (he : RE G m 53 54 r s) (hn : 0 ≤ n ∧ n ≤ 12) (hB : ∀ x y, 0 ≤ x → x < G 0 → 0 ≤ y → y < G 1 → gB G x y (r x) (s y) + n ≤ 12) : CtV (d + 3) M_Duo_addToBoxes [(2, 52), (2, g), (0, n)] kd m (fun m1 => DI kd m g G m1 (opMix G r s n)) := by
  have e0 := hg.2.1
  have h0 := ho.1
  have L0 := zfor2 (G 0) (fun (x : Int) (mm : ZM) (H : GR) => Ev (d + 3) M_Duo_addToBoxes 0 0 2 [(2, 52), (2, g), (0, n), (0, x), zJ] [] kd mm (zqV kd (fun m1 => DI kd m g G m1 (opMix G r s n)))) (fun (x : Int) (mm : ZM) (H : GR) => 0 ≤ x ∧ DI kd m g G mm H ∧ H = zfold x.toNat (fun x H => zfold (G 1).toNat (fun y K => gup K (429 + zS 0 x y (r x) (s y)) (K (429 + zS 0 x y (r x) (s y)) + n)) H) G ∧ mxU G H r s x 0) (by
    intro x mm H hb hI0 KL0
    obtain ⟨hx0, hD0, hH, hU⟩ := hI0
    have f0 := hd.frame (hD0.2.2.2 52 (by omega))
    have e0 := hD0.1.2.1
    have z0 := hD0.2.2.1
    have L1 := zfor2 (G 1) (fun (y : Int) (mm : ZM) (K : GR) => Ev (d + 3) M_Duo_addToBoxes 0 0 13 [(2, 52), (2, g), (0, n), (0, x), (0, y)] [] kd mm (zqV kd (fun m1 => DI kd m g G m1 (opMix G r s n)))) (fun (y : Int) (mm : ZM) (K : GR) => 0 ≤ y ∧ x < G 0 ∧ DI kd m g G mm K ∧ K = zfold y.toNat (fun y K => gup K (429 + zS 0 x y (r x) (s y)) (K (429 + zS 0 x y (r x) (s y)) + n)) H ∧ mxU G K r s x y) (by
      intro y mm K hb hI1 KL1
      obtain ⟨hy0, hxl, hD1, hK, hU1⟩ := hI1
      have f1 := hd.frame (hD1.2.2.2 52 (by omega))
      have e53 : mm 52 0 = 53 := f1.1.2.1
      have e54 : mm 52 1 = 54 := f1.1.2.2.1
      have r1 := hr x hx0 hxl
      rw [show nA G 0 = G 2 from rfl] at r1
      have ex : mm 53 x = r x := by rw [hD1.2.2.2 53 (by omega)]; exact he.1 x hx0 hxl
      have e1 := hD1.1.2.1
      have z1 := hD1.2.2.1
      refine T_Duo_addToBoxes_13 ?_
      simp only [e53, e54, ex]
      refine ⟨hD1.1.1.1, ?_⟩
      refine ⟨fun c1 => ?_, fun c1 => ?_⟩
      · skip
        rw [iw_s (x := x + 1) (by omega) (by omega)]
        exact KL0 mm K (by omega) ⟨by omega, hD1, by rw [zfold_1 hx0, ← hH, hK, show y = G 1 by omega], fun u w u1 u2 w1 w2 hh => hU1 u w u1 u2 w1 w2 (by omega)⟩
      · skip
        refine ⟨hD1.1.1.1, f1.1.1, ⟨5, f1.2.1, by omega, by omega⟩, f1.1.1, ⟨5, f1.2.2.1, by omega, by omega⟩, ?_⟩
        refine ⟨_, c_Ap_spotOf (by omega) (by omega) (by omega) (by rw [show mm 54 y = s y by rw [hD1.2.2.2 54 (by omega)]; exact he.2 y hy0 (by omega)]; have r2 := hs y hy0 (show y < G 1 by omega); rw [show nA G 1 = G 3 from rfl] at r2; omega), ?_⟩
        rintro _ _ ⟨rfl, rfl⟩
        have r2 := hs y hy0 (show y < G 1 by omega)
        rw [show nA G 1 = G 3 from rfl] at r2
        have ey : mm 54 y = s y := by rw [hD1.2.2.2 54 (by omega)]; exact he.2 y hy0 (by omega)
        rw [ey]
        refine ⟨(hD1.1.1.inB (zS_in (by omega) (by omega) (by omega) (by omega))), (hD1.1.1.inB (zS_in (by omega) (by omega) (by omega) (by omega))), ?_⟩
        have rd := (hD1.rd (p := 0) (Or.inl rfl) ⟨hx0, hxl⟩ ⟨hy0, (show y < G 1 by omega)⟩ ⟨r1.1, r1.2⟩ ⟨r2.1, r2.2⟩).2
        have hu := hU1 x y hx0 hxl hy0 (by omega) (by omega)
        have hb := hB x y hx0 hxl hy0 (by omega)
        have pb := (pVB_at ho (p := 0) (Or.inl rfl) ⟨hx0, hxl⟩ ⟨hy0, (show y < G 1 by omega)⟩ ⟨r1.1, r1.2⟩ ⟨r2.1, r2.2⟩).2
        rw [show pB G 0 x y (r x) (s y) = gB G x y (r x) (s y) from rfl] at pb
        rw [iw_s (x := y + 1) (by omega) (by omega), rd.1, iw_s (by omega) (by omega)]
        exact KL1 _ _ (by omega) ⟨by omega, hxl, hD1.putB (p := 0) (Or.inl rfl) ⟨hx0, hxl⟩ ⟨hy0, (show y < G 1 by omega)⟩ ⟨r1.1, r1.2⟩ ⟨r2.1, r2.2⟩ (by omega), by rw [zfold_1 hy0, ← hK], mxU_1 ho hr hs ⟨hx0, hxl⟩ ⟨hy0, by omega⟩ hU1⟩)
    refine T_Duo_addToBoxes_2 ?_
    refine ⟨hD0.1.1.1, ?_⟩
    refine ⟨fun c1 => ?_, fun c1 => ?_⟩
    · skip
      rw [show x = G 0 by omega] at hH
      rw [hH] at hD0
      exact hD0
    · skip
      exact L1 0 mm H (by omega) ⟨by omega, by omega, hD0, rfl, hU⟩)
  refine S_Duo_addToBoxes ?_
  exact L0 0 m G (by omega) ⟨by omega, DI.rf hg ho, rfl, fun _ _ _ _ _ _ _ => rfl⟩
