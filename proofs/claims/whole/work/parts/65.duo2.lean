/-! DUO, second: what a row brings -/
/-- a row of answers of player p -/
def isRw (G : GR) (p : Int) (r : Int → Int) : Prop := ∀ q, 0 ≤ q → q < nQ G p → 0 ≤ r q ∧ r q < nA G p
def wAt (G : GR) (p x a : Int) (r : Int → Int) : Int := zsum (nQ G (1 - p)).toNat fun o => pW G p x o * pV G p x o a (r o)
theorem wAt_in {G : GR} (ho : GOK G) (p x a : Int) (r : Int → Int) : 0 ≤ wAt G p x a r ∧ wAt G p x a r ≤ 45 := by
  have h := zsum_le (C := 9) (f := fun o => pW G p x o * pV G p x o a (r o)) (by decide) (fun o => ho.WV p x o a (r o)) (nQ G (1 - p)).toNat
  have := ho.q (1 - p)
  unfold wAt
  omega
def wBoth (G : GR) (r s : Int → Int) : Int := zsum (G 0).toNat fun x => wAt G 0 x (r x) s
theorem c_Duo_worthAt {d : Nat} {kd : ZK} {m : ZM} {g : Int} {G : GR} {p x a : Int} (hd : DU kd m) (hg : CG kd m g G) (ho : GOK G) (hp : p = 0 ∨ p = 1) (hx : 0 ≤ x ∧ x < nQ G p) (ha : 0 ≤ a ∧ a < nA G p) (hr : isRw G (1 - p) (m (rwD (1 - p)))) : CtI (d + 4) M_Duo_worthAt [(2, 52), (2, g), (0, p), (0, x), (0, a)] kd m (qE m (wAt G p x a (m (rwD (1 - p))))) := by
  have q1 := ho.q p
  have q2 := ho.q (1 - p)
  have q3 := ho.a p
  have q4 := ho.a (1 - p)
  have ep : iw (1 - p) = 1 - p := iw_s (by omega) (by omega)
  have L0 := zfor1 (nQ G (1 - p)) (fun (o : Int) (t : Int) => Ev (d + 4) M_Duo_worthAt 0 0 15 [zJ, (2, g), (0, p), (0, x), (0, a), (2, (rwD (1 - p))), (0, t), (0, o)] [] kd m (zqI kd (qE m (wAt G p x a (m (rwD (1 - p))))))) (fun (o : Int) (t : Int) => 0 ≤ o ∧ t = zsum o.toNat fun o => pW G p x o * pV G p x o a ((m (rwD (1 - p))) o)) (by
    intro o t hb hI0 KL0
    obtain ⟨ho0, ht⟩ := hI0
    have hs := zsum_le (C := 9) (f := fun o => pW G p x o * pV G p x o a ((m (rwD (1 - p))) o)) (by decide) (fun o => ho.WV p x o a _) o.toNat
    have hw := ho.WV p x o a ((m (rwD (1 - p))) o)
    refine T_Duo_worthAt_15 ?_
    simp only [ep]
    refine ⟨hg.1.1, _, c_Game_questionsOf hg, ?_⟩
    rintro _ _ ⟨rfl, rfl⟩
    refine ⟨fun c1 => ?_, fun c1 => ?_⟩
    · try simp only [zb_eq0, zb_ne0] at c1
      exact ⟨by rw [ht, show o = nQ G (1 - p) by omega]; rfl, rfl⟩
    · try simp only [zb_eq0, zb_ne0] at c1
      refine ⟨⟨5, hd.row _, by omega, by omega⟩, ?_⟩
      refine ⟨hg.1.1, _, c_Game_gain hg ho hp hx ⟨by omega, by omega⟩ ha (hr o ho0 (by omega)), ?_⟩
      rintro _ _ ⟨rfl, rfl⟩
      rw [iw_s (x := o + 1) (by omega) (by omega)]
      rw [iw_s (by omega) (by omega)]
      exact KL0 _ (by omega) ⟨by omega, by rw [zsum_1 ho0, ht]⟩)
  refine S_Duo_worthAt ?_
  simp only [ep]
  refine ⟨hd.1.1, _, c_Duo_answersBy hd, ?_⟩
  rintro _ _ ⟨rfl, rfl⟩
  exact L0 0 0 (by omega) ⟨by omega, rfl⟩
theorem c_Duo_worthBoth {d : Nat} {kd : ZK} {m : ZM} {g : Int} {G : GR} (hd : DU kd m) (hg : CG kd m g G) (ho : GOK G) (h1 : isRw G 0 (m 53)) (h2 : isRw G 1 (m 54)) : CtI (d + 5) M_Duo_worthBoth [(2, 52), (2, g)] kd m (qE m (wBoth G (m 53) (m 54))) := by
  have e0 := hg.2.1
  have h0 := ho.1
  have e53 : m 52 0 = 53 := hd.1.2.1
  have L0 := zfor1 (G 0) (fun (x : Int) (t : Int) => Ev (d + 5) M_Duo_worthBoth 0 0 4 [(2, 52), (2, g), (0, t), (0, x)] [] kd m (zqI kd (qE m (wBoth G (m 53) (m 54))))) (fun (x : Int) (t : Int) => 0 ≤ x ∧ t = zsum x.toNat fun x => wAt G 0 x (m 53 x) (m 54)) (by
    intro x t hb hI0 KL0
    obtain ⟨hx0, ht⟩ := hI0
    have hs := zsum_le (C := 45) (f := fun x => wAt G 0 x (m 53 x) (m 54)) (by decide) (fun x => wAt_in ho 0 x _ _) x.toNat
    have hw := wAt_in ho 0 x (m 53 x) (m 54)
    refine T_Duo_worthBoth_4 ?_
    simp only [e53]
    refine ⟨hg.1.1, ?_⟩
    refine ⟨fun c1 => ?_, fun c1 => ?_⟩
    · skip
      exact ⟨by rw [ht, show x = G 0 by omega]; rfl, rfl⟩
    · skip
      refine ⟨hd.1.1, ⟨5, hd.2.1, by omega, by omega⟩, ?_⟩
      refine ⟨hd.1.1, _, c_Duo_worthAt hd hg ho (Or.inl rfl) (show 0 ≤ x ∧ x < G 0 by omega) (h1 x hx0 (show x < G 0 by omega)) h2, ?_⟩
      rintro _ _ ⟨rfl, rfl⟩
      rw [iw_s (x := x + 1) (by omega) (by omega)]
      rw [show rwD (1 - 0) = 54 from rfl, iw_s (by omega) (by omega)]
      exact KL0 _ (by omega) ⟨by omega, by rw [zsum_1 hx0, ht]⟩)
  refine S_Duo_worthBoth ?_
  exact L0 0 0 (by omega) ⟨by omega, rfl⟩
