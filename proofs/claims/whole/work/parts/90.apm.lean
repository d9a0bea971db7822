/-! THE CLASS AS A WHOLE: its state; what the questions about a game ask for -/
def AI (kd : ZK) (m : ZM) (G : GR) (P : Int → GR) (s : Int) (S : Int → GR) (u : Int) (T : Int → Int) (n : Int) : Prop :=
  (zobj kd 0 7 ∧ (m 0 0 = 1 ∧ m 0 1 = 3 ∧ m 0 2 = 45 ∧ m 0 3 = 52 ∧ m 0 4 = 56 ∧ m 0 5 = 60 ∧ m 0 6 = 61) ∧ m 0 7 = u ∧ ((m 0 8 = 70 ∧ m 0 9 = 74) ∨ (m 0 8 = 74 ∧ m 0 9 = 70)))
  ∧ (CG kd m (m 0 8) G ∧ GOK G) ∧ GS kd m (m 0 9) ∧ PC kd m P s ∧ (TB kd m ∧ DU kd m ∧ SH kd m ∧ zobj kd 60 3) ∧ TP kd m T n
  ∧ (zarr kd 61 3 2 ∧ m 61 0 = 62 ∧ m 61 1 = 66 ∧ GS kd m 62 ∧ GS kd m 66) ∧ (0 ≤ u ∧ u ≤ 3) ∧ (sbit u 0 → CG kd m 62 (S 0) ∧ GOK (S 0)) ∧ (sbit u 1 → CG kd m 66 (S 1) ∧ GOK (S 1))
/-- what a question about a game may change -/
def FQ (kd : ZK) (m m1 : ZM) : Prop := (∀ c, (c < 45 ∨ c = 52 ∨ c = 56 ∨ (60 ≤ c ∧ (c < m 0 9 ∨ m 0 9 + 3 < c))) → m1 c = m c) ∧ TB kd m1 ∧ GS kd m1 (m 0 9)
def FT (kd : ZK) (m m1 : ZM) : Prop := (∀ c, (c < 45 ∨ 51 < c) → m1 c = m c) ∧ TB kd m1
theorem TP.frame {kd : ZK} {m m1 : ZM} {T : Int → Int} {n : Int} (h : TP kd m T n) (e : m1 1 = m 1) (e2 : m1 2 = m 2) : TP kd m1 T n := by
  unfold TP; rw [e, e2]; exact h
theorem AI.q {kd : ZK} {m m1 : ZM} {G : GR} {P : Int → GR} {s : Int} {S : Int → GR} {u : Int} {T : Int → Int} {n : Int} (h : AI kd m G P s S u T n) (k : FQ kd m m1) : AI kd m1 G P s S u T n := by
  obtain ⟨⟨h1, h2, h3, h4⟩, ⟨h5, h6⟩, h7, h8, ⟨h9, h10, h11, h12⟩, h13, ⟨h14, h15, h16, h17, h18⟩, h19, h20, h21⟩ := h
  obtain ⟨k1, k2, k3⟩ := k
  have e0 : m1 0 = m 0 := k1 0 (by omega)
  have e61 : m1 61 = m 61 := k1 61 (by omega)
  unfold AI
  rw [e0, e61]
  refine ⟨⟨h1, h2, h3, h4⟩, ⟨h5.frame (fun a a1 a2 => k1 a (by omega)), h6⟩, k3, h8.frame (fun a a1 a2 => k1 a (by omega)), ⟨k2, h10.frame (k1 52 (by omega)), h11.frame (k1 56 (by omega)), h12⟩, h13.frame (k1 1 (by omega)) (k1 2 (by omega)), ⟨h14, h15, h16, h17.frame (k1 62 (by omega)), h18.frame (k1 66 (by omega))⟩, h19, fun b => ⟨(h20 b).1.frame (fun a a1 a2 => k1 a (by omega)), (h20 b).2⟩, fun b => ⟨(h21 b).1.frame (fun a a1 a2 => k1 a (by omega)), (h21 b).2⟩⟩
theorem FQ.rf {kd : ZK} {m : ZM} (h : TB kd m) (k : GS kd m (m 0 9)) : FQ kd m m := ⟨fun _ _ => rfl, h, k⟩
theorem FQ.tr {kd : ZK} {m m1 m2 : ZM} (h : FQ kd m m1) (k : FQ kd m1 m2) (h9 : 45 ≤ m 0 9) : FQ kd m m2 := by
  have e0 : m1 0 = m 0 := h.1 0 (by omega)
  have e9 : m1 0 9 = m 0 9 := by rw [e0]
  exact ⟨fun c hc => by rw [k.1 c (by rw [e9]; exact hc), h.1 c hc], k.2.1, by rw [← e9]; exact k.2.2⟩
theorem FT.q {kd : ZK} {m m1 : ZM} (h : FT kd m m1) (k : GS kd m (m 0 9)) (h9 : 51 < m 0 9) : FQ kd m m1 := ⟨fun c hc => h.1 c (by omega), h.2, k.frame (h.1 _ (by omega))⟩
theorem FT.tr {kd : ZK} {m m1 m2 : ZM} (h : FT kd m m1) (k : FT kd m1 m2) : FT kd m m2 := ⟨fun c hc => by rw [k.1 c hc, h.1 c hc], k.2⟩
theorem TL.tb {kd : ZK} {m : ZM} {nq na ng nr w : Int} {f : Int → Int → Int → Int} (h : TL kd m nq na ng nr w f) : TB kd m := ⟨_, _, _, _, _, h.1⟩
/-- the most that two rows are worth -/
def isMx (G : GR) (x : Int) : Prop := isMost (G 0) (G 2) (G 1) (G 3) (fP G 0) x
theorem isMx_eq {G : GR} {x y : Int} (h : isMx G x) (k : isMx G y) : x = y := isMost_eq h k
theorem tHigh_nn {nq ng nr : Int} {f : Int → Int → Int → Int} {r : Int → Int} (h : ∀ q a i, 0 ≤ f q a i) : 0 ≤ tHigh nq ng nr f r := by
  unfold tHigh
  refine zsum_nn _ (fun g _ _ => ?_)
  unfold tHi
  obtain ⟨j, _, _, e⟩ := zhi_at (h := fun j => zS_ f r nq (g * nr + j)) (nr - 1).toNat
  rw [e]
  exact zsum_nn _ (fun q _ _ => h _ _ _)
theorem isMA_0 {G : GR} (ho : GOK G) (ht : 0 < G 0) {x : Int} (h : isMA (G 0) (G 2) (G 1) (G 3) (fP G 0) 0 x) : isMx G x := by
  have htt := ho.2.1 ht
  exact h.most (r := fun _ => 0) (fun q _ _ => ⟨Int.le_refl _, by show (0 : Int) < G 2; omega⟩) (tHigh_nn (fun q a i => (fP_in ho 0 q a i).1))
theorem isMx_in {G : GR} (ho : GOK G) {x : Int} (h : isMx G x) : 0 ≤ x ∧ x ≤ 225 := by
  obtain ⟨r, h1, h2⟩ := h.2
  have h0 := ho.1
  have a := tHigh_nn (nq := G 0) (ng := G 1) (nr := G 3) (r := r) (fun q a i => (fP_in ho 0 q a i).1)
  have b := zsum_bd (C := 45) (f := fun g => tHi (G 0) (G 3) (fP G 0) r g) (G 1).toNat (fun g _ _ => zhi_bd _ (fun j _ _ => by
    have := zsum_bd (C := 9) (f := fun q => fP G 0 q (r q) (g * G 3 + j)) (G 0).toNat (fun q _ _ => by have := fP_in ho 0 q (r q) (g * G 3 + j); omega)
    unfold zS_
    omega))
  unfold tHigh at h2 a
  omega
def lowL (G : GR) : Int := zlo (G 2 ^ (G 0).toNat - 1).toNat fun c => tLow (G 0) (G 1) (G 3) (fP G 0) (erow (G 0) (G 2) c)
def lowM (G : GR) (p : Int) : Int := zhi (nA G p ^ (nQ G p).toNat - 1).toNat fun c => tLow (nQ G p) (nQ G (1 - p)) (nA G (1 - p)) (fP G p) (erow (nQ G p) (nA G p) c)
def told (G : GR) : Prop := 0 < G 0
noncomputable def aWins (G : GR) (x y a b : Int) : Int := zite ((isQ G 0 x ∧ isQ G 1 y) ∧ isA G 0 a ∧ isA G 1 b) (gV G x y a b) (-1)
noncomputable def aWeight (G : GR) (x y : Int) : Int := zite (isQ G 0 x ∧ isQ G 1 y) (gW G x y) (-1)
def pWorth (G : GR) (w x : Int) : Prop := (¬ told G → x = -1) ∧ (told G → (w = 0 → isMx G x) ∧ (w = 1 → x = sW G) ∧ (w = 2 → x = lowL G) ∧ (w = 3 → x = lowM G 0) ∧ (w = 4 → x = lowM G 1) ∧ ((w < 0 ∨ 4 < w) → x = -1))
def pSure (G : GR) (p x : Int) : Prop := (¬ (told G ∧ (p = 0 ∨ p = 1)) → x = -1) ∧ (told G ∧ (p = 0 ∨ p = 1) → ∃ c, isFst (nA G p ^ (nQ G p).toNat) (fun c => tLow (nQ G p) (nQ G (1 - p)) (nA G (1 - p)) (fP G p) (erow (nQ G p) (nA G p) c) = lowM G p) c ∧ x = zhn (nQ G p).toNat (erow (nQ G p) (nA G p) c))
noncomputable def aPlay (G : GR) (a b : Int) : Int := zite (isNum G 0 a ∧ isNum G 1 b) (wBoth G (drow G 0 a) (drow G 1 b)) (-1)
noncomputable def aHangs (G : GR) (a y : Int) : Int := zite (isNum G 0 a ∧ isQ G 1 y) (gSpan G y (drow G 0 a)) (-1)
noncomputable def aReply (G : GR) (p o : Int) : Int := zite ((p = 0 ∨ p = 1) ∧ isNum G (1 - p) o) (zhn (nQ G p).toNat (bA G p (drow G (1 - p) o))) (-1)
def pBests (G : GR) (x : Int) : Prop := (¬ told G → x = -1) ∧ (told G → ∃ u, isMx G u ∧ x = zsum (G 2 ^ (G 0).toNat).toNat (tT (G 0) (G 2) (G 1) (G 3) (fP G 0) u))
def pBest (G : GR) (k p x : Int) : Prop := (¬ (told G ∧ (p = 0 ∨ p = 1) ∧ 0 ≤ k) → x = -1) ∧ (told G ∧ (p = 0 ∨ p = 1) ∧ 0 ≤ k → ∃ u, isMx G u ∧ isKth (G 0) (G 2) (G 1) (G 3) (fP G 0) u k p (G 2 ^ (G 0).toNat) x)
def pLost (G : GR) (x y z : Int) : Prop := (¬ (isQ G 0 x ∧ isQ G 1 y) → z = -1) ∧ (isQ G 0 x ∧ isQ G 1 y → ∃ u, isMx G u ∧ z = zsum (G 2 ^ (G 0).toNat).toNat (tTL (G 0) (G 2) (G 1) (G 3) (fP G 0) G x y u))
noncomputable def aMean (G : GR) (w : Int) : Int := zite (told G ∧ 0 ≤ w ∧ w ≤ 1) (if w = 0 then sWV G / Int.gcd (sWV G) (G 2 * G 3) else G 2 * G 3 / Int.gcd (sWV G) (G 2 * G 3)) (-1)
def tkM (G : GR) (S x : Int) : Prop := isMA (cnt S (G 0)) (G 2) (G 1) (G 3) (fS G 0 S (G 0)) 0 x
def isTk (G : GR) (f : Int → Int) : Prop := ∀ k, 0 ≤ k → 2 * k < (2 : Int) ^ (G 0).toNat → ∃ a b, tkM G (2 * k) a ∧ tkM G ((2 : Int) ^ (G 0).toNat - 1 - 2 * k) b ∧ f k = a + b
def pTalk (G : GR) (w x : Int) : Prop := (¬ (told G ∧ 0 ≤ w ∧ w ≤ 1) → x = -1) ∧ (told G ∧ 0 ≤ w ∧ w ≤ 1 → ∃ f, isTk G f ∧ (w = 0 → x = zhi ((2 : Int) ^ (G 0).toNat / 2 - 1).toNat f) ∧ (w = 1 → x = 2 * zam ((2 : Int) ^ (G 0).toNat / 2 - 1).toNat f))
/-- K is G with no weight where Z says so -/
def isWz (G : GR) (Z : Int → Int → Prop) (K : GR) : Prop := (K 0 = G 0 ∧ K 1 = G 1 ∧ K 2 = G 2 ∧ K 3 = G 3) ∧ (∀ x y, 0 ≤ x → x < G 0 → 0 ≤ y → y < G 1 → (Z x y → gW K x y = 0) ∧ (¬ Z x y → gW K x y = gW G x y)) ∧ ∀ x y a b, gV K x y a b = gV G x y a b
def pWithout (G : GR) (p q x : Int) : Prop := (¬ isQ G p q → x = -1) ∧ (isQ G p q → ∃ K, GOK K ∧ isWz G (fun i j => (p = 0 ∧ i = q) ∨ (p = 1 ∧ j = q)) K ∧ isMx K x)
def pCut (G : GR) (x y z : Int) : Prop := (¬ (isQ G 0 x ∧ isQ G 1 y) → z = -1) ∧ (isQ G 0 x ∧ isQ G 1 y → ∃ K, GOK K ∧ isWz G (fun i j => i = x ∧ j = y) K ∧ isMx K z)
noncomputable def aLesser (G : GR) (p q a o : Int) : Int := zite (isQ G p q ∧ isA G p a ∧ isA G p o ∧ a ≠ o) (zb (isLs G p q a o)) (-1)
noncomputable def aSame (G : GR) (p q o : Int) : Int := zite ((isQ G p q ∧ isQ G p o) ∧ q ≠ o) (zb (isSm G p q o)) (-1)
def pClimb (G : GR) (a b w x : Int) : Prop := (¬ ((isNum G 0 a ∧ isNum G 1 b) ∧ 0 ≤ w ∧ w ≤ 3) → x = -1) ∧ ((isNum G 0 a ∧ isNum G 1 b) ∧ 0 ≤ w ∧ w ≤ 3 → ∃ r s t, isCl G (drow G 0 a) (drow G 1 b) r s t ∧ (w = 0 → x = wBoth G r s) ∧ (w = 1 → x = zhn (G 0).toNat r) ∧ (w = 2 → x = zhn (G 1).toNat s) ∧ (w = 3 → x = t))
def pParts (G : GR) (w x : Int) : Prop := (¬ told G → x = -1) ∧ (told G → (w = 0 → ∃ M, isLab G M ∧ x = nPts G M) ∧ (w = 1 → ∃ M, isLab G M ∧ isGr G M x) ∧ (w = 2 → ∃ u, isMx G u ∧ x = zb (u = sW G)) ∧ ((w < 0 ∨ 2 < w) → x = -1))
noncomputable def aSign (G : GR) (x y : Int) : Int := zite (isQ G 0 x ∧ isQ G 1 y) (gS G x y) (-2)
def pBias (G : GR) (w x : Int) : Prop := (¬ (told G ∧ 0 ≤ w ∧ w ≤ 2) → x = -1) ∧ (told G ∧ 0 ≤ w ∧ w ≤ 2 → (¬ isPG G → x = -2000) ∧ (isPG G → (w = 0 → ∃ u, isMx G u ∧ x = 2 * u - sW G) ∧ (w = 1 → x = sqs G 0) ∧ (w = 2 → x = sqs G 1)))
def rw2 (G : GR) : Prop := (G 2 * G 2) ^ (G 0 * G 0).toNat ≤ 70000
def pTwice (G : GR) (w x : Int) : Prop := (¬ (told G ∧ 0 ≤ w ∧ w ≤ 1) → x = -1) ∧ (told G ∧ 0 ≤ w ∧ w ≤ 1 → (¬ rw2 G → x = -2) ∧ (rw2 G → ∃ u, isMx G u ∧ isMA (G 0 * G 0) (G 2 * G 2) (G 1 * G 1) (G 3 * G 3) (fTn G w (G 3 * G 3)) (if w = 0 then u * u else sW G * sW G - (sW G - u) * (sW G - u)) x))
def pProd (G : GR) (x : Int) : Prop := (¬ told G → x = -1) ∧ (told G → (¬ isPG G → x = -2000) ∧ (isPG G → (¬ G 0 ≤ 4 → x = -2001) ∧ (G 0 ≤ 4 → ∃ u, isMx G u ∧ isMA (G 0 * G 0) 2 (G 1 * G 1) 2 (fI G) ((2 * u - sW G) * (2 * u - sW G)) x)))
def pBoxed (G : GR) (w x : Int) : Prop := (¬ told G → x = -1) ∧ (told G → (w = 0 → x = sBW G) ∧ (w = 1 → x = zb (isWh G)) ∧ (w = 2 → x = zb (¬ noSig G 0 ∨ ¬ noSig G 1)) ∧ (w = 3 → ∃ u, isMx G u ∧ x = zb (12 * u < sBW G)) ∧ ((w < 0 ∨ 3 < w) → x = -1))
noncomputable def aMarginal (G : GR) (p q a o : Int) : Int := zite ((isQ G p q ∧ isA G p a) ∧ isQ G (1 - p) o) (sB G p q a o) (-1)
noncomputable def aSym (G : GR) : Int := zite (told G) (symN G) (-1)
