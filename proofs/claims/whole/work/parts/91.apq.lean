/-! THE CLASS AS A WHOLE: what each call answers, and what then stands -/
noncomputable def aWins (G : GR) (x y a b : Int) : Int := zite ((isQ G 0 x ∧ isQ G 1 y) ∧ isA G 0 a ∧ isA G 1 b) (gV G x y a b) (-1)
noncomputable def aWeight (G : GR) (x y : Int) : Int := zite (isQ G 0 x ∧ isQ G 1 y) (gW G x y) (-1)
noncomputable def aPlay (G : GR) (a b : Int) : Int := zite (isNum G 0 a ∧ isNum G 1 b) (wBoth G (drow G 0 a) (drow G 1 b)) (-1)
noncomputable def aHangs (G : GR) (a y : Int) : Int := zite (isNum G 0 a) (zite (isQ G 1 y) (gSpan G y (drow G 0 a)) (-1)) (-1)
noncomputable def aReply (G : GR) (p o : Int) : Int := zite (p = 0 ∨ p = 1) (zite (isNum G (1 - p) o) (zhn (nQ G p).toNat (bA G p (drow G (1 - p) o))) (-1)) (-1)
noncomputable def aMean (G : GR) (w : Int) : Int := zite (told G) (zite (w < 0) (-1) (zite (w ≤ 1) (if w = 0 then sWV G / Int.gcd (sWV G) (G 2 * G 3) else G 2 * G 3 / Int.gcd (sWV G) (G 2 * G 3)) (-1))) (-1)
def tkM (G : GR) (S x : Int) : Prop := isMA (cnt S (G 0)) (G 2) (G 1) (G 3) (fS G 0 S (G 0)) 0 x
def isTk (G : GR) (f : Int → Int) : Prop := ∀ k, 0 ≤ k → 2 * k < (2 : Int) ^ (G 0).toNat → ∃ a b, tkM G (2 * k) a ∧ tkM G ((2 : Int) ^ (G 0).toNat - 1 - 2 * k) b ∧ f k = a + b
/-- K is G with no weight where Z says so -/
def isWz (G : GR) (Z : Int → Int → Prop) (K : GR) : Prop := (K 0 = G 0 ∧ K 1 = G 1 ∧ K 2 = G 2 ∧ K 3 = G 3) ∧ (∀ x y, 0 ≤ x → x < G 0 → 0 ≤ y → y < G 1 → (Z x y → gW K x y = 0) ∧ (¬ Z x y → gW K x y = gW G x y)) ∧ ∀ x y a b, gV K x y a b = gV G x y a b
noncomputable def aLesser (G : GR) (p q a o : Int) : Int := zite (isQ G p q ∧ isA G p a ∧ isA G p o ∧ a ≠ o) (zite (isLs G p q a o) 1 0) (-1)
noncomputable def aSame (G : GR) (p q o : Int) : Int := zite (isQ G p q) (zite (isQ G p o) (zite (q ≠ o) (zite (isSm G p q o) 1 0) (-1)) (-1)) (-1)
noncomputable def aSign (G : GR) (x y : Int) : Int := zite (isQ G 0 x ∧ isQ G 1 y) (gS G x y) (-2)
def rw2 (G : GR) : Prop := (G 2 * G 2) ^ (G 0 * G 0).toNat ≤ 70000
noncomputable def aMarginal (G : GR) (p q a o : Int) : Int := zite (isQ G p q) (zite (isA G p a) (zite (isQ G (1 - p) o) (sB G p q a o) (-1)) (-1)) (-1)
noncomputable def aSym (G : GR) : Int := zite (told G) (symN G) (-1)
def lowPl (G : GR) (p x : Int) : Prop := ∃ c, isFst (nA G p ^ (nQ G p).toNat) (fun c => tLow (nQ G p) (nQ G (1 - p)) (nA G (1 - p)) (fP G p) (erow (nQ G p) (nA G p) c) = lowM G p) c ∧ x = zhn (nQ G p).toNat (erow (nQ G p) (nA G p) c)
def pWorth (G : GR) (w x : Int) : Prop := zcs (told G) (((w < 0 ∨ 4 < w) → x = -1) ∧ (w = 0 → isMx G x) ∧ (w = 1 → x = sW G) ∧ (w = 2 → x = lowL G) ∧ (w = 3 → x = lowM G 0) ∧ (w = 4 → x = lowM G 1)) (x = -1)
def pSure (G : GR) (p x : Int) : Prop := zcs (told G) (zcs (p = 0 ∨ p = 1) (lowPl G p x) (x = -1)) (x = -1)
def pBests (G : GR) (x : Int) : Prop := zcs (told G) (∃ u, isMx G u ∧ x = zsum (G 2 ^ (G 0).toNat).toNat (tT (G 0) (G 2) (G 1) (G 3) (fP G 0) u)) (x = -1)
def pBest (G : GR) (k p x : Int) : Prop := zcs (told G) (zcs (p = 0 ∨ p = 1) (zcs (0 ≤ k) (∃ u, isMx G u ∧ isKth (G 0) (G 2) (G 1) (G 3) (fP G 0) u k p (G 2 ^ (G 0).toNat) x) (x = -1)) (x = -1)) (x = -1)
def pLost (G : GR) (x y z : Int) : Prop := zcs (isQ G 0 x ∧ isQ G 1 y) (∃ u, isMx G u ∧ z = zsum (G 2 ^ (G 0).toNat).toNat (tTL (G 0) (G 2) (G 1) (G 3) (fP G 0) G x y u)) (z = -1)
def pTalk (G : GR) (w x : Int) : Prop := zcs (told G) (zcs (w < 0) (x = -1) (zcs (w ≤ 1) (∃ f, isTk G f ∧ (w = 0 → x = zhi ((2 : Int) ^ (G 0).toNat / 2 - 1).toNat f) ∧ (w = 1 → x = 2 * zam ((2 : Int) ^ (G 0).toNat / 2 - 1).toNat f)) (x = -1))) (x = -1)
def pWithout (G : GR) (p q x : Int) : Prop := zcs (isQ G p q) (∃ K, GOK K ∧ isWz G (fun i j => (p = 0 ∧ i = q) ∨ (p = 1 ∧ j = q)) K ∧ isMx K x) (x = -1)
def pCut (G : GR) (x y z : Int) : Prop := zcs (isQ G 0 x ∧ isQ G 1 y) (∃ K, GOK K ∧ isWz G (fun i j => i = x ∧ j = y) K ∧ isMx K z) (z = -1)
def pClimb (G : GR) (a b w x : Int) : Prop := zcs (isNum G 0 a ∧ isNum G 1 b) (zcs (w < 0) (x = -1) (zcs (w ≤ 3) (∃ r s t, isCl G (drow G 0 a) (drow G 1 b) r s t ∧ (w = 0 → x = wBoth G r s) ∧ (w = 1 → x = zhn (G 0).toNat r) ∧ (w = 2 → x = zhn (G 1).toNat s) ∧ (w = 3 → x = t)) (x = -1))) (x = -1)
def pParts (G : GR) (w x : Int) : Prop := zcs (told G) (((w < 0 ∨ 2 < w) → x = -1) ∧ (w = 0 → ∃ M, isLab G M ∧ x = nPts G M) ∧ (w = 1 → ∃ M, isLab G M ∧ isGr G M x) ∧ (w = 2 → ∃ u, isMx G u ∧ x = zb (u = sW G))) (x = -1)
def isBi (G : GR) (x : Int) : Prop := ∃ u, isMx G u ∧ x = 2 * u - sW G
def pBias (G : GR) (w x : Int) : Prop := zcs (told G) (zcs (w < 0) (x = -1) (zcs (w ≤ 2) (zcs (isPG G) ((w = 0 → isBi G x) ∧ (w = 1 → x = sqs G 0) ∧ (w = 2 → x = sqs G 1)) (x = -2000)) (x = -1))) (x = -1)
def pTwice (G : GR) (w x : Int) : Prop := zcs (told G) (zcs (w < 0) (x = -1) (zcs (w ≤ 1) (zcs (rw2 G) (isMost (G 0 * G 0) (G 2 * G 2) (G 1 * G 1) (G 3 * G 3) (fTn G w (G 3 * G 3)) x) (x = -2)) (x = -1))) (x = -1)
def pProd (G : GR) (x : Int) : Prop := zcs (told G) (zcs (isPG G) (zcs (G 0 ≤ 4) (isMost (G 0 * G 0) 2 (G 1 * G 1) 2 (fI G) x) (x = -2001)) (x = -2000)) (x = -1)
def pBoxed (G : GR) (w x : Int) : Prop := zcs (told G) (((w < 0 ∨ 3 < w) → x = -1) ∧ (w = 0 → x = sBW G) ∧ (w = 1 → x = zb (isWh G)) ∧ (w = 2 → x = zb (¬ noSig G 0 ∨ ¬ noSig G 1)) ∧ (w = 3 → ∃ u, isMx G u ∧ x = zb (12 * u < sBW G))) (x = -1)
noncomputable def aLen (G : GR) : Int := zite (told G) (wAll (-1) G (0, 0)).2 0
def pLetter (G : GR) (k x : Int) : Prop := zcs (-1 ≤ k) (zcs (k = -1) (x = aLen G) (zcs (k < aLen G) (x = (wAll k G (0, 0)).1) (x = -2))) (x = -1)
def pCount (st : ST) (w x : Int) : Prop := ((w < 0 ∨ 7 < w) → x = -1) ∧ (w = 0 → x = st.1 0) ∧ (w = 1 → x = st.1 1) ∧ (w = 2 → x = st.1 2) ∧ (w = 3 → x = st.1 3) ∧ (w = 4 → x = sV st.1) ∧ (w = 5 → x = st.2.2.1) ∧ (w = 6 → x = st.2.2.2.2.2.2) ∧ (w = 7 → x = st.2.2.2.2.1)
/-- an act -/
def acted (st : ST) (K : GR) : ST := (K, pushP st.2.1 st.2.2.1 st.1, zmin (st.2.2.1 + 1) 10, st.2.2.2)
noncomputable def fFeed (st : ST) (a b c e f : Int) : Int × ST := zif (st.2.2.2.2.2.2 + 20 ≤ 400) (st.2.2.2.2.2.2 + 20, (st.1, st.2.1, st.2.2.1, st.2.2.2.1, st.2.2.2.2.1, fd (fd (fd (fd (fd st.2.2.2.2.2.1 st.2.2.2.2.2.2 a) (st.2.2.2.2.2.2 + 4) b) (st.2.2.2.2.2.2 + 8) c) (st.2.2.2.2.2.2 + 12) e) (st.2.2.2.2.2.2 + 16) f, st.2.2.2.2.2.2 + 20)) (-1, st)
noncomputable def fEnd (st : ST) (k : Int) : Int × ST := zif (k < 0) (-1, st) (zif (k ≤ st.2.2.2.2.2.2) (k, (st.1, st.2.1, st.2.2.1, st.2.2.2.1, st.2.2.2.2.1, st.2.2.2.2.2.1, k)) (-1, st))
def rTell (st : ST) (x : Int) (st2 : ST) : Prop := ∃ f K, isTl st.2.2.2.2.2.1 st.2.2.2.2.2.2 f K ∧ (f = 0 → x = K 0 ∧ st2 = (K, st.2.1, 0, st.2.2.2.1, st.2.2.2.2.1, st.2.2.2.2.2.1, 0)) ∧ (f ≠ 0 → x = -2 - f ∧ st2 = (st.1, st.2.1, st.2.2.1, st.2.2.2.1, st.2.2.2.2.1, st.2.2.2.2.2.1, 0))
noncomputable def fWeigh (st : ST) (x y k : Int) : Int × ST := zif (isQ st.1 0 x ∧ isQ st.1 1 y) (zif (k < 0) (-1, st) (zif (k ≤ 9) (zif (gW st.1 x y ≠ k) (gW st.1 x y, acted st (gup st.1 (4 + zC 0 x y) k)) (-2, st)) (-1, st))) (-1, st)
noncomputable def fDecide (st : ST) (x y a b : Int) : Int × ST := zif ((isQ st.1 0 x ∧ isQ st.1 1 y) ∧ isA st.1 0 a ∧ isA st.1 1 b) (1 - gV st.1 x y a b, acted st (gup st.1 (29 + zS 0 x y a b) (1 - gV st.1 x y a b))) (-1, st)
noncomputable def fParity (st : ST) (x y k : Int) : Int × ST := zif (isQ st.1 0 x ∧ isQ st.1 1 y) (zif (k < 0) (-1, st) (zif (k ≤ 1) (zif (gS st.1 x y ≠ 1 - 2 * k) (1, acted st (opPar st.1 x y k)) (-2, st)) (-1, st))) (-1, st)
noncomputable def fExchange (st : ST) (p q a o : Int) : Int × ST := zif (isQ st.1 p q ∧ isA st.1 p a ∧ isA st.1 p o ∧ a ≠ o) (1, acted st (opEx st.1 p q a o)) (-1, st)
noncomputable def fSwap (st : ST) : Int × ST := zif (0 < st.1 0) (1, acted st (opSwap st.1)) (-1, st)
noncomputable def fDrop (st : ST) (p q : Int) : Int × ST := zif (isQ st.1 p q) (zif (nQ st.1 p ≠ 1) (nQ st.1 p - 1, acted st (opDrop st.1 p q)) (-2, st)) (-1, st)
noncomputable def fCopy (st : ST) (p q : Int) : Int × ST := zif (isQ st.1 p q) (zif (nQ st.1 p ≠ 5) (nQ st.1 p + 1, acted st (opCopy st.1 p q)) (-2, st)) (-1, st)
noncomputable def fBox (st : ST) (x y a b k : Int) : Int × ST := zif ((isQ st.1 0 x ∧ isQ st.1 1 y) ∧ isA st.1 0 a ∧ isA st.1 1 b) (zif (k < 0) (-1, st) (zif (k ≤ 12) (zif (gB st.1 x y a b ≠ k) (gB st.1 x y a b, acted st (gup st.1 (429 + zS 0 x y a b) k)) (-2, st)) (-1, st))) (-1, st)
def mxOk (G : GR) (r s : Int → Int) (k : Int) : Prop := ∀ x y, 0 ≤ x → x < G 0 → 0 ≤ y → y < G 1 → gB G x y (r x) (s y) + k ≤ 12
noncomputable def fMix (st : ST) (a b k : Int) : Int × ST := zif (isNum st.1 0 a ∧ isNum st.1 1 b) (zif (k < 1) (-1, st) (zif (k ≤ 12) (zif (mxOk st.1 (drow st.1 0 a) (drow st.1 1 b) k) (1, acted st (opMix st.1 (drow st.1 0 a) (drow st.1 1 b) k)) (-2, st)) (-1, st))) (-1, st)
noncomputable def fDraw (st : ST) (k : Int) : Int × ST := zif (0 < st.1 0) (sV (opDraw st.1 k).2, acted st (opDraw st.1 k).2) (-1, st)
noncomputable def fUndo (st : ST) : Int × ST := zif (st.2.2.1 ≠ 0) (st.2.2.1 - 1, (st.2.1 (st.2.2.1 - 1), st.2.1, st.2.2.1 - 1, st.2.2.2)) (-1, st)
def putS (S : Int → GR) (k : Int) (G : GR) : Int → GR := fun i => if i = k then G else S i
noncomputable def fKeep (st : ST) (k : Int) : Int × ST := zif (k < 0) (-1, st) (zif (k < 2) (st.1 0, (st.1, st.2.1, st.2.2.1, putS st.2.2.2.1 k st.1, zor st.2.2.2.2.1 (zshl 1 k), st.2.2.2.2.2)) (-1, st))
noncomputable def fBack (st : ST) (k : Int) : Int × ST := zif (k < 0) (-1, st) (zif (k < 2) (zif (sbit st.2.2.2.2.1 k) (st.2.2.2.1 k 0, (st.2.2.2.1 k, st.2.1, 0, st.2.2.2)) (-2, st)) (-1, st))
