/-! DUO, sixth: rows taken, best replies -/
theorem rwD_in (p : Int) : rwD p = 53 ∨ rwD p = 54 := by unfold rwD; split <;> simp
theorem rwD_o {p : Int} (hp : p = 0 ∨ p = 1) : rwD p ≠ rwD (1 - p) := by rcases hp with q | q <;> subst q <;> decide
def dg10 (n k : Int) : Int := n / 10 ^ k.toNat % 10
def drow (G : GR) (p n q : Int) : Int := dg10 n (nQ G p - 1 - q)
def isNum (G : GR) (p n : Int) : Prop := (0 < G 0 ∧ 0 ≤ n) ∧ n / 10 ^ (nQ G p).toNat = 0 ∧ ∀ q, 0 ≤ q → q < nQ G p → drow G p n q < nA G p
theorem dg10_in (n k : Int) : 0 ≤ dg10 n k ∧ dg10 n k ≤ 9 := by unfold dg10; omega
theorem p10_1 {n i : Int} (h : 0 ≤ i) : n / 10 ^ (i + 1).toNat = n / 10 ^ i.toNat / 10 := by
  have e : (i + 1).toNat = i.toNat + 1 := by omega
  rw [e, Int.pow_succ, Int.ediv_ediv_of_nonneg (Int.le_of_lt (Int.pow_pos (by decide)))]
theorem isNum.rw {G : GR} {p n : Int} {r : Int → Int} (h : isNum G p n) (e : ∀ q, 0 ≤ q → q < nQ G p → r q = drow G p n q) : isRw G p r := fun q h1 h2 => by
  rw [e q h1 h2]
  exact ⟨(dg10_in _ _).1, h.2.2 q h1 h2⟩
/-- how far a number is taken: its last i digits are laid -/
def tkI (G : GR) (p n : Int) (m mm : ZM) (i l q : Int) : Prop := 0 ≤ i ∧ q = nQ G p - 1 - i ∧ (l = n / 10 ^ i.toNat ∧ 0 ≤ l ∧ l ≤ 2147483647) ∧ (∀ c, c ≠ rwD p → mm c = m c) ∧ ∀ j, q < j → j < nQ G p → mm (rwD p) j = drow G p n j ∧ drow G p n j < nA G p
theorem tkI_1 {G : GR} {p n : Int} {m mm : ZM} {i l q : Int} (hq : 0 ≤ q) (hQ : nQ G p ≤ 5) (h : tkI G p n m mm i l q) (ha : Int.tmod l 10 < nA G p) : tkI G p n m (zup mm (rwD p) q (Int.tmod l 10)) (i + 1) (iw (Int.tdiv l 10)) (iw (q + -1)) := by
  obtain ⟨h0, h1, h2, h3, h4⟩ := h
  have e1 : Int.tdiv l 10 = l / 10 := Int.tdiv_eq_ediv_of_nonneg h2.2.1
  have e2 : Int.tmod l 10 = l % 10 := Int.tmod_eq_emod_of_nonneg h2.2.1
  have ed : l % 10 = drow G p n q := by unfold drow dg10; rw [show nQ G p - 1 - q = i by omega, h2.1]
  rw [e2] at ha ⊢
  rw [e1]
  rw [iw_s (by omega) (by omega), iw_s (by omega) (by omega)]
  refine ⟨by omega, by omega, ⟨by rw [p10_1 h0, ← h2.1], by omega, by omega⟩, fun c hc => by rw [zup_off hc]; exact h3 c hc, fun j j1 j2 => ?_⟩
  rw [zup_at]
  rcases (show j = q ∨ q < j by omega) with k | k
  · rw [k, gup_at, ← ed]; exact ⟨rfl, ha⟩
  · rw [gup_off (by omega)]; exact h4 j k j2
theorem c_Duo_take {d : Nat} {kd : ZK} {m : ZM} {g : Int} {G : GR} {p n : Int} (hd : DU kd m) (hg : CG kd m g G) (ho : GOK G) (hz : 55 < g) (hp : p = 0 ∨ p = 1) (hn : zin32 n) : CtI (d + 3) M_Duo_take [(2, 52), (2, g), (0, p), (0, n)] kd m (fun x m1 => x = zb (isNum G p n) ∧ (∀ c, c ≠ rwD p → m1 c = m c) ∧ (isNum G p n → ∀ q, 0 ≤ q → q < nQ G p → m1 (rwD p) q = drow G p n q)) := by
  have hq := ho.q p
  have hw := rwD_in p
  have hrw := hd.row p
  have hn2 := hn.2
  have L0 := zfor3 (nQ G p) (fun (i : Int) (mm : ZM) (l : Int) (q : Int) => Ev (d + 3) M_Duo_take 0 0 32 [zJ, (2, g), (0, p), zJ, (2, (rwD p)), (0, l), (0, q)] [] kd mm (zqI kd (fun x m1 => x = zb (isNum G p n) ∧ (∀ c, c ≠ rwD p → m1 c = m c) ∧ (isNum G p n → ∀ q, 0 ≤ q → q < nQ G p → m1 (rwD p) q = drow G p n q)))) (fun (i : Int) (mm : ZM) (l : Int) (q : Int) => (0 < G 0 ∧ 0 ≤ n) ∧ tkI G p n m mm i l q) (by
    intro i mm l q hb hI0 KL0
    have hI := hI0
    obtain ⟨hn0, hi0, hqi, hl, hF, hD⟩ := hI0
    have hgm : ∀ v, CG kd (zup mm (rwD p) q v) g G := fun v => hg.frame (fun a a1 a2 => by rw [zup_off (by omega)]; exact hF a (by omega))
    have e2 : Int.tmod l 10 = l % 10 := Int.tmod_eq_emod_of_nonneg hl.2.1
    refine T_Duo_take_32 ?_
    simp only [zup_self]
    refine ⟨fun c1 => ?_, fun c1 => ?_⟩
    · skip
      refine ⟨fun c2 => ?_, fun c2 => ?_⟩
      · skip
        refine ⟨(zb_f (fun h => ?_)).symm, hF, fun h => ?_⟩
        · have := h.2.1
          rw [show nQ G p = i by omega, ← hl.1] at this
          omega
        · have := h.2.1
          rw [show nQ G p = i by omega, ← hl.1] at this
          omega
      · skip
        have hN : isNum G p n := ⟨hn0, by rw [show nQ G p = i by omega, ← hl.1]; omega, fun j j1 j2 => (hD j (by omega) j2).2⟩
        exact ⟨(zb_t hN).symm, hF, fun _ j j1 j2 => (hD j (by omega) j2).1⟩
    · skip
      refine ⟨⟨5, hrw, by omega, by omega⟩, ⟨5, hrw, by omega, by omega⟩, ?_⟩
      refine ⟨(hgm (Int.tmod l 10)).1.1, _, c_Game_hasAnswer (hgm (Int.tmod l 10)), ?_⟩
      rintro _ _ ⟨rfl, rfl⟩
      refine ⟨fun c3 => ?_, fun c3 => ?_⟩
      · try simp only [zb_eq0, zb_ne0] at c3
        exact KL0 _ _ _ (by omega) ⟨hn0, tkI_1 (by omega) hq.2 hI.2 (by omega)⟩
      · try simp only [zb_eq0, zb_ne0] at c3
        have hX : ¬ isNum G p n := fun h => by
          have := h.2.2 q (by omega) (by omega)
          unfold drow dg10 at this
          rw [show nQ G p - 1 - q = i by omega, ← hl.1] at this
          omega
        exact ⟨(zb_f hX).symm, fun c hc => by rw [zup_off hc]; exact hF c hc, fun h => absurd h hX⟩)
  refine S_Duo_take ?_
  refine ⟨hd.1.1, _, c_Duo_answersBy hd, ?_⟩
  rintro _ _ ⟨rfl, rfl⟩
  refine ⟨hg.1.1, _, c_Game_isTold hg, ?_⟩
  rintro _ _ ⟨rfl, rfl⟩
  refine ⟨fun c1 => ?_, fun c1 => ?_⟩
  · try simp only [zb_eq0, zb_ne0] at c1
    refine ⟨(zb_f (fun h => ?_)).symm, fun _ _ => rfl, fun h => ?_⟩
    · have := h.1; omega
    · have := h.1; omega
  · try simp only [zb_eq0, zb_ne0] at c1
    refine ⟨fun c2 => ?_, fun c2 => ?_⟩
    · skip
      refine ⟨hg.1.1, _, c_Game_questionsOf hg, ?_⟩
      rintro _ _ ⟨rfl, rfl⟩
      rw [iw_s (by omega) (by omega)]
      exact L0 0 m n _ (by omega) ⟨⟨by omega, by omega⟩, by omega, by omega, ⟨by simp, by omega, by omega⟩, fun _ _ => rfl, fun j j1 j2 => by omega⟩
    · skip
      refine ⟨(zb_f (fun h => ?_)).symm, fun _ _ => rfl, fun h => ?_⟩
      · have := h.1; omega
      · have := h.1; omega
theorem DU.frame2 {kd : ZK} {m m' : ZM} (h : DU kd m) (e : ∀ c, c ≠ 53 → c ≠ 54 → m' c = m c) : DU kd m' := h.frame (e 52 (by decide) (by decide))
theorem c_Duo_takeBoth {d : Nat} {kd : ZK} {m : ZM} {g : Int} {G : GR} {n k : Int} (hd : DU kd m) (hg : CG kd m g G) (ho : GOK G) (hz : 55 < g) (hn : zin32 n) (hk : zin32 k) : CtI (d + 4) M_Duo_takeBoth [(2, 52), (2, g), (0, n), (0, k)] kd m (fun x m1 => x = zb (isNum G 0 n ∧ isNum G 1 k) ∧ (∀ c, c ≠ 53 → c ≠ 54 → m1 c = m c) ∧ (isNum G 0 n ∧ isNum G 1 k → (∀ q, 0 ≤ q → q < G 0 → m1 53 q = drow G 0 n q) ∧ ∀ q, 0 ≤ q → q < G 1 → m1 54 q = drow G 1 k q)) := by
  refine S_Duo_takeBoth ⟨hd.1.1, _, c_Duo_take hd hg ho hz (Or.inl rfl) hn, ?_⟩
  rintro _ m1 ⟨rfl, hF, hR⟩
  rw [show rwD 0 = 53 from rfl] at hF hR
  have hd1 : DU kd m1 := hd.frame (hF 52 (by decide))
  have hg1 : CG kd m1 g G := hg.frame (fun a a1 a2 => hF a (by omega))
  refine ⟨fun c1 => ?_, fun c1 => ?_⟩
  · rw [zb_eq0] at c1
    exact ⟨(zb_f (fun h => c1 h.1)).symm, fun c h1 _ => hF c h1, fun h => absurd h.1 c1⟩
  · rw [zb_ne0] at c1
    refine ⟨hd.1.1, _, c_Duo_take hd1 hg1 ho hz (Or.inr rfl) hk, ?_⟩
    rintro _ m2 ⟨rfl, hF2, hR2⟩
    rw [show rwD 1 = 54 from rfl] at hF2 hR2
    refine ⟨fun c2 => ?_, fun c2 => ?_⟩
    · rw [zb_eq0] at c2
      exact ⟨(zb_f (fun h => c2 h.2)).symm, fun c h1 h2 => by rw [hF2 c h2, hF c h1], fun h => absurd h.2 c2⟩
    · rw [zb_ne0] at c2
      exact ⟨(zb_t ⟨c1, c2⟩).symm, fun c h1 h2 => by rw [hF2 c h2, hF c h1], fun _ => ⟨fun q q1 q2 => by rw [hF2 53 (by decide)]; exact hR c1 q q1 q2, fun q q1 q2 => hR2 c2 q q1 q2⟩⟩
theorem wTop_in {G : GR} (ho : GOK G) (p i : Int) (s : Int → Int) : 0 ≤ zhi (nA G p - 1).toNat (fun a => wAt G p i a s) ∧ zhi (nA G p - 1).toNat (fun a => wAt G p i a s) ≤ 45 := by
  obtain ⟨j, _, _, h⟩ := zhi_at (h := fun a => wAt G p i a s) (nA G p - 1).toNat
  rw [h]
  exact wAt_in ho p i j s
/-- where the greatest stands first -/
def zam : Nat → (Int → Int) → Int
  | 0, _ => 0
  | n + 1, h => if zhi n h < h (n + 1) then n + 1 else zam n h
theorem zam_in {h : Int → Int} : ∀ n : Nat, 0 ≤ zam n h ∧ zam n h ≤ n := by
  intro n
  induction n with
  | zero => exact ⟨Int.le_refl _, Int.le_refl _⟩
  | succ n ih => rw [zam]; split <;> omega
theorem zam_at {h : Int → Int} : ∀ n : Nat, h (zam n h) = zhi n h := by
  intro n
  induction n with
  | zero => rfl
  | succ n ih =>
    rw [zam, zhi, zmax]
    split
    · rfl
    · exact ih
theorem zam_1 {i : Int} (h : 0 ≤ i) (f : Int → Int) : zam (i + 1).toNat f = if zhi i.toNat f < f (i + 1) then i + 1 else zam i.toNat f := by
  have e : (i + 1).toNat = i.toNat + 1 := by omega
  have e2 : ((i.toNat : Nat) : Int) = i := by omega
  rw [e, zam, e2]
theorem zam_congr {h k : Int → Int} : ∀ n : Nat, (∀ j : Int, 0 ≤ j → j ≤ n → h j = k j) → zam n h = zam n k := by
  intro n
  induction n with
  | zero => intro _; rfl
  | succ n ih =>
    intro e
    rw [zam, zam, ih (fun j h1 h2 => e j h1 (by omega)), e (n + 1) (by omega) (by omega), zhi_congr n (fun j h1 h2 => e j h1 (by omega))]
def amS (h : Int → Int) (a mo b : Int) : Prop := (a = 0 → mo = -1) ∧ (0 < a → mo = zhi (a - 1).toNat h ∧ b = zam (a - 1).toNat h)
theorem amS_no {h : Int → Int} {a mo b : Int} (h0 : 0 ≤ a) (h1 : 0 ≤ h a) (h2 : h a ≤ mo) (k : amS h a mo b) : amS h (a + 1) mo b := by
  rcases (show a = 0 ∨ 0 < a by omega) with q | q
  · have := k.1 q; omega
  · have e := k.2 q
    have x1 := zhi_1 (i := a - 1) (by omega) h
    have x2 := zam_1 (i := a - 1) (by omega) h
    rw [show a - 1 + 1 = a by omega] at x1 x2
    refine ⟨fun _ => by omega, fun _ => ?_⟩
    rw [show a + 1 - 1 = a by omega, x1, x2, ← e.1, if_neg (by omega)]
    exact ⟨by unfold zmax; split <;> omega, e.2⟩
theorem amS_yes {h : Int → Int} {a mo b : Int} (h0 : 0 ≤ a) (h2 : mo < h a) (k : amS h a mo b) : amS h (a + 1) (h a) a := by
  refine ⟨fun _ => by omega, fun _ => ?_⟩
  rcases (show a = 0 ∨ 0 < a by omega) with q | q
  · subst q; exact ⟨rfl, rfl⟩
  · have e := k.2 q
    have x1 := zhi_1 (i := a - 1) (by omega) h
    have x2 := zam_1 (i := a - 1) (by omega) h
    rw [show a - 1 + 1 = a by omega] at x1 x2
    rw [show a + 1 - 1 = a by omega, x1, x2, ← e.1, if_pos (by omega)]
    exact ⟨by unfold zmax; split <;> omega, rfl⟩
def bA (G : GR) (p : Int) (s : Int → Int) (q : Int) : Int := zam (nA G p - 1).toNat (fun a => wAt G p q a s)
def wBest (G : GR) (p : Int) (s : Int → Int) : Int := zsum (nQ G p).toNat fun q => zhi (nA G p - 1).toNat (fun a => wAt G p q a s)
theorem bA_rw {G : GR} {p : Int} {s : Int → Int} (h : 1 ≤ nA G p) : isRw G p (bA G p s) := fun q _ _ => by
  have := zam_in (h := fun a => wAt G p q a s) (nA G p - 1).toNat
  unfold bA
  omega
theorem wAt_congr {G : GR} {p x a : Int} {r s : Int → Int} (h : ∀ q, 0 ≤ q → q < nQ G (1 - p) → r q = s q) : wAt G p x a r = wAt G p x a s := by
  unfold wAt
  exact zsum_congr _ (fun i h1 h2 => by rw [h i h1 (by omega)])
theorem c_Duo_answerBest {d : Nat} {kd : ZK} {m : ZM} {g : Int} {G : GR} {p : Int} (hd : DU kd m) (hg : CG kd m g G) (ho : GOK G) (hz : 55 < g) (hp : p = 0 ∨ p = 1) (ha1 : 1 ≤ nA G p) (hr : isRw G (1 - p) (m (rwD (1 - p)))) : CtI (d + 5) M_Duo_answerBest [(2, 52), (2, g), (0, p)] kd m (fun x m1 => x = wBest G p (m (rwD (1 - p))) ∧ (∀ c, c ≠ 55 → m1 c = m c) ∧ ∀ q, 0 ≤ q → q < nQ G p → m1 55 q = bA G p (m (rwD (1 - p))) q) := by
  have q1 := ho.q p
  have q2 := ho.q (1 - p)
  have q3 := ho.a p
  have q4 := ho.a (1 - p)
  have ep : iw (1 - p) = 1 - p := iw_s (by omega) (by omega)
  have hw := rwD_in (1 - p)
  generalize hs : m (rwD (1 - p)) = s at *
  have key : ∀ mm : ZM, (∀ c, c ≠ 55 → mm c = m c) → DU kd mm ∧ CG kd mm g G ∧ mm (rwD (1 - p)) = s := fun mm h => ⟨hd.frame (h 52 (by decide)), hg.frame (fun a a1 a2 => h a (by omega)), by rw [← hs]; exact h _ (by omega)⟩
  have hwa : ∀ x a : Int, 0 ≤ wAt G p x a s ∧ wAt G p x a s ≤ 45 := fun x a => wAt_in ho p x a s
  have L0 := zfor2 (nQ G p) (fun (q : Int) (mm : ZM) (t : Int) => Ev (d + 5) M_Duo_answerBest 0 0 5 [(2, 52), (2, g), (0, p), (0, t), (0, q), zJ, zJ, zJ] [] kd mm (zqI kd (fun x m1 => x = wBest G p s ∧ (∀ c, c ≠ 55 → m1 c = m c) ∧ ∀ q, 0 ≤ q → q < nQ G p → m1 55 q = bA G p s q))) (fun (q : Int) (mm : ZM) (t : Int) => 0 ≤ q ∧ t = zsum q.toNat (fun q => zhi (nA G p - 1).toNat (fun a => wAt G p q a s)) ∧ (∀ c, c ≠ 55 → mm c = m c) ∧ ∀ j, 0 ≤ j → j < q → mm 55 j = bA G p s j) (by
    intro q mm t hb hI0 KL0
    obtain ⟨hq0, ht, hF, hB⟩ := hI0
    have k0 := key mm hF
    have hs0 := zsum_le (C := 45) (f := (fun q => zhi (nA G p - 1).toNat (fun a => wAt G p q a s))) (by decide) (fun i => wTop_in ho p i s) q.toNat
    have L1 := zfor2 (nA G p) (fun (a : Int) (nn : ZM) (u : Int) => Ev (d + 5) M_Duo_answerBest 0 0 21 [(2, 52), (2, g), (0, p), (0, t), (0, q), (0, u), (0, a), zJ] [] kd nn (zqI kd (fun x m1 => x = wBest G p s ∧ (∀ c, c ≠ 55 → m1 c = m c) ∧ ∀ q, 0 ≤ q → q < nQ G p → m1 55 q = bA G p s q))) (fun (a : Int) (nn : ZM) (u : Int) => 0 ≤ a ∧ q < nQ G p ∧ (∀ c, c ≠ 55 → nn c = m c) ∧ (∀ j, 0 ≤ j → j < q → nn 55 j = bA G p s j) ∧ amS (fun a => wAt G p q a s) a u (nn 55 q)) (by
      intro a nn u hb hI1 KL1
      obtain ⟨ha0, hql, hF1, hB1, hA⟩ := hI1
      have k1 := key nn hF1
      have hwq := hwa q a
      have hA2 := hA.2
      have e55 : nn 52 2 = 55 := k1.1.1.2.2.2
      have hr1 : isRw G (1 - p) (nn (rwD (1 - p))) := by rw [k1.2.2]; exact hr
      refine T_Duo_answerBest_21 ?_
      refine ⟨k1.2.1.1.1, _, c_Game_answersOf k1.2.1, ?_⟩
      rintro _ _ ⟨rfl, rfl⟩
      refine ⟨fun c1 => ?_, fun c1 => ?_⟩
      · try rw [k1.2.2] at c1
        have ea : a = nA G p := by omega
        have hA3 := hA2 (by omega)
        rw [ea] at hA3
        have hz2 := wTop_in ho p q s
        rw [iw_s (x := q + 1) (by omega) (by omega), iw_s (x := t + u) (by omega) (by omega)]
        refine KL0 nn (t + u) (by omega) ⟨by omega, by rw [zsum_1 hq0, ← ht, hA3.1], hF1, fun j j1 j2 => ?_⟩
        rcases (show j < q ∨ j = q by omega) with e | e
        · exact hB1 j j1 e
        · rw [e, hA3.2]; rfl
      · try rw [k1.2.2] at c1
        refine ⟨k1.1.1.1, _, c_Duo_worthAt k1.1 k1.2.1 ho hp ⟨hq0, hql⟩ (show 0 ≤ a ∧ a < nA G p by omega) hr1, ?_⟩
        rintro _ _ ⟨rfl, rfl⟩
        refine ⟨fun c2 => ?_, fun c2 => ?_⟩
        · try rw [k1.2.2] at c2
          rw [iw_s (x := a + 1) (by omega) (by omega)]
          exact KL1 nn u (by omega) ⟨by omega, hql, hF1, hB1, amS_no ha0 hwq.1 (by assumption) hA⟩
        · try rw [k1.2.2] at c2
          refine ⟨k1.1.1.1, (by rw [e55]; exact ⟨5, k1.1.2.2.2, by omega, by omega⟩), ?_⟩
          rw [iw_s (x := a + 1) (by omega) (by omega), k1.2.2, e55]
          refine KL1 _ _ (by omega) ⟨by omega, hql, fun c hc => by rw [zup_off hc]; exact hF1 c hc, fun j j1 j2 => by rw [zup_at, gup_off (by omega)]; exact hB1 j j1 j2, ?_⟩
          rw [zup_at, gup_at]
          exact amS_yes ha0 (by omega) hA)
    refine T_Duo_answerBest_5 ?_
    refine ⟨k0.2.1.1.1, _, c_Game_questionsOf k0.2.1, ?_⟩
    rintro _ _ ⟨rfl, rfl⟩
    refine ⟨fun c1 => ?_, fun c1 => ?_⟩
    · try simp only [zb_eq0, zb_ne0] at c1
      exact ⟨by rw [ht, show q = nQ G p by omega]; rfl, hF, fun j j1 j2 => hB j j1 (by omega)⟩
    · try simp only [zb_eq0, zb_ne0] at c1
      exact L1 0 mm (-1) (by omega) ⟨by omega, by omega, hF, hB, fun _ => rfl, fun h => absurd h (by decide)⟩)
  refine S_Duo_answerBest ?_
  exact L0 0 m 0 (by omega) ⟨by omega, rfl, fun _ _ => rfl, fun j j1 j2 => by omega⟩
