/-! TABLES: places, digits, what is loaded -/
theorem mulS (y w : Int) : (y + 1) * w = y * w + w := by rw [Int.add_mul, Int.one_mul]
theorem mulL {y z w : Int} (h : y < z) (hw : 0 ≤ w) : y * w + w ≤ z * w := by
  rw [← mulS]
  exact Int.mul_le_mul_of_nonneg_right (by omega) hw
theorem mulN {y w : Int} (h : 0 ≤ y) (hw : 0 ≤ w) : 0 ≤ y * w := Int.mul_nonneg h hw
theorem lin_d {y w i : Int} (h0 : 0 ≤ i) (h1 : i < w) : (y * w + i) / w = y := by
  rw [Int.add_comm, Int.add_mul_ediv_right _ _ (by omega), Int.ediv_eq_zero_of_lt h0 h1]
  omega
theorem lin_m {y w i : Int} (h0 : 0 ≤ i) (h1 : i < w) : (y * w + i) % w = i := by
  rw [Int.add_comm, Int.add_mul_emod_self_right, Int.emod_eq_of_lt h0 h1]
def tF (na w : Int) (f : Int → Int → Int → Int) (x : Int) : Int := f (x / w / na) (x / w % na) (x % w)
theorem tF_at {na w : Int} {f : Int → Int → Int → Int} {q a i : Int} (ha : 0 ≤ a ∧ a < na) (hi : 0 ≤ i ∧ i < w) : tF na w f ((q * na + a) * w + i) = f q a i := by
  unfold tF
  rw [lin_d hi.1 hi.2, lin_m hi.1 hi.2, lin_d ha.1 ha.2, lin_m ha.1 ha.2]
def TZ (nq na ng nr w : Int) : Prop := ((0 ≤ nq ∧ nq ≤ 16) ∧ (1 ≤ na ∧ na ≤ 16) ∧ (0 ≤ ng ∧ ng ≤ 25) ∧ (1 ≤ nr ∧ nr ≤ 16)) ∧ (w = ng * nr ∧ 0 ≤ w ∧ w ≤ 400) ∧ nq * na ≤ 64 ∧ (nq + 1) * w ≤ 2000 ∧ nq * na * w ≤ 25600
/-- the table with its sizes -/
def TS (kd : ZK) (m : ZM) (nq na ng nr w : Int) : Prop := zobj kd 45 5 ∧ (m 45 0 = nq ∧ m 45 1 = na ∧ m 45 2 = ng ∧ m 45 3 = nr ∧ m 45 4 = w) ∧ (m 45 5 = 46 ∧ m 45 6 = 47 ∧ m 45 7 = 48 ∧ m 45 8 = 49 ∧ m 45 9 = 50 ∧ m 45 10 = 51) ∧ zarr kd 46 0 25600 ∧ zarr kd 47 0 2000 ∧ zarr kd 48 0 2000 ∧ zarr kd 49 1 64 ∧ zarr kd 50 0 16 ∧ zarr kd 51 0 5
theorem TS.frame {kd : ZK} {m m' : ZM} {nq na ng nr w : Int} (h : TS kd m nq na ng nr w) (e : m' 45 = m 45) : TS kd m' nq na ng nr w := by
  unfold TS; rw [e]; exact h
theorem TS.frame2 {kd : ZK} {m m' : ZM} {nq na ng nr w : Int} (h : TS kd m nq na ng nr w) (e : ∀ k, k ≠ 11 → m' 45 k = m 45 k) : TS kd m' nq na ng nr w := by
  unfold TS
  rw [e 0 (by decide), e 1 (by decide), e 2 (by decide), e 3 (by decide), e 4 (by decide), e 5 (by decide), e 6 (by decide), e 7 (by decide), e 8 (by decide), e 9 (by decide), e 10 (by decide)]
  exact h
theorem TS.i46 {kd : ZK} {m : ZM} {nq na ng nr w i : Int} (h : TS kd m nq na ng nr w) (h0 : 0 ≤ i) (h1 : i < 25600) : zIn kd 46 0 i := ⟨25600, h.2.2.2.1, h0, h1⟩
theorem TS.i47 {kd : ZK} {m : ZM} {nq na ng nr w i : Int} (h : TS kd m nq na ng nr w) (h0 : 0 ≤ i) (h1 : i < 2000) : zIn kd 47 0 i := ⟨2000, h.2.2.2.2.1, h0, h1⟩
theorem TS.i48 {kd : ZK} {m : ZM} {nq na ng nr w i : Int} (h : TS kd m nq na ng nr w) (h0 : 0 ≤ i) (h1 : i < 2000) : zIn kd 48 0 i := ⟨2000, h.2.2.2.2.2.1, h0, h1⟩
theorem TS.i49 {kd : ZK} {m : ZM} {nq na ng nr w i : Int} (h : TS kd m nq na ng nr w) (h0 : 0 ≤ i) (h1 : i < 64) : zIn kd 49 1 i := ⟨64, h.2.2.2.2.2.2.1, h0, h1⟩
theorem TS.i50 {kd : ZK} {m : ZM} {nq na ng nr w i : Int} (h : TS kd m nq na ng nr w) (h0 : 0 ≤ i) (h1 : i < 16) : zIn kd 50 0 i := ⟨16, h.2.2.2.2.2.2.2.1, h0, h1⟩
theorem TS.i51 {kd : ZK} {m : ZM} {nq na ng nr w i : Int} (h : TS kd m nq na ng nr w) (h0 : 0 ≤ i) (h1 : i < 5) : zIn kd 51 0 i := ⟨5, h.2.2.2.2.2.2.2.2, h0, h1⟩
def fBd (nq na w : Int) (f : Int → Int → Int → Int) : Prop := ∀ q a i, 0 ≤ q → q < nq → 0 ≤ a → a < na → 0 ≤ i → i < w → -81 ≤ f q a i ∧ f q a i ≤ 81
/-- the table is loaded with f -/
def TL (kd : ZK) (m : ZM) (nq na ng nr w : Int) (f : Int → Int → Int → Int) : Prop := TS kd m nq na ng nr w ∧ TZ nq na ng nr w ∧ (∀ x, 0 ≤ x → x < nq * na * w → m 46 x = tF na w f x) ∧ fBd nq na w f
theorem TL.frame {kd : ZK} {m m' : ZM} {nq na ng nr w : Int} {f : Int → Int → Int → Int} (h : TL kd m nq na ng nr w f) (e : ∀ k, k ≠ 11 → m' 45 k = m 45 k) (e2 : m' 46 = m 46) : TL kd m' nq na ng nr w f :=
  ⟨h.1.frame2 e, h.2.1, by rw [e2]; exact h.2.2⟩
theorem TZ.ix {nq na ng nr w q a : Int} (h : TZ nq na ng nr w) (hq : 0 ≤ q ∧ q < nq) (ha : 0 ≤ a ∧ a < na) : (0 ≤ q * na ∧ q * na + a < nq * na ∧ q * na + a < 64) ∧ 0 ≤ (q * na + a) * w ∧ (q * na + a) * w + w ≤ nq * na * w ∧ (q * na + a) * w + w ≤ 25600 := by
  obtain ⟨⟨h1, h2, h3, h4⟩, ⟨h5, h6, h7⟩, h8, h9, h10⟩ := h
  have a1 := mulL hq.2 (show 0 ≤ na by omega)
  have a2 := mulN hq.1 (show 0 ≤ na by omega)
  have a3 := mulL (y := q * na + a) (z := nq * na) (w := w) (by omega) h6
  have a4 := mulN (y := q * na + a) (w := w) (by omega) h6
  omega
theorem TZ.ln {nq na ng nr w n : Int} (h : TZ nq na ng nr w) (hn : 0 ≤ n ∧ n ≤ nq) : 0 ≤ n * w ∧ n * w + w ≤ 2000 := by
  have a1 := mulL (y := n) (z := nq + 1) (by omega) h.2.1.2.1
  have a2 := mulN hn.1 h.2.1.2.1
  have := h.2.2.2.1
  omega
theorem TZ.gr {nq na ng nr w g : Int} (h : TZ nq na ng nr w) (hg : 0 ≤ g ∧ g < ng) : 0 ≤ g * nr ∧ g * nr + nr ≤ w := by
  have a1 := mulL hg.2 (show 0 ≤ nr by have := h.1; omega)
  have a2 := mulN hg.1 (show 0 ≤ nr by have := h.1; omega)
  have := h.2.1.1
  omega
theorem TL.gain {kd : ZK} {m : ZM} {nq na ng nr w : Int} {f : Int → Int → Int → Int} (h : TL kd m nq na ng nr w f) {q a i : Int} (hq : 0 ≤ q ∧ q < nq) (ha : 0 ≤ a ∧ a < na) (hi : 0 ≤ i ∧ i < w) : m 46 ((q * na + a) * w + i) = f q a i := by
  have k := h.2.1.ix hq ha
  rw [h.2.2.1 _ (by omega) (by omega), tF_at ha hi]
theorem zS_bd {nq na w : Int} {f : Int → Int → Int → Int} (h : fBd nq na w f) {r : Int → Int} (hr : zrw nq na r) {n i : Int} (hn : 0 ≤ n ∧ n ≤ nq) (hq : nq ≤ 16) (hi : 0 ≤ i ∧ i < w) : -1296 ≤ zS_ f r n i ∧ zS_ f r n i ≤ 1296 := by
  have := zsum_bd (C := 81) (f := fun q => f q (r q) i) n.toNat (fun q q1 q2 => h q (r q) i q1 (by omega) (hr q q1 (by omega)).1 (hr q q1 (by omega)).2 hi.1 hi.2)
  unfold zS_
  omega
/-! the rows by their codes -/
def dgt (na c : Int) (k : Nat) : Int := c / na ^ k % na
theorem dgt_in {na c : Int} {k : Nat} (h : 0 < na) : 0 ≤ dgt na c k ∧ dgt na c k < na := ⟨Int.emod_nonneg _ (by omega), Int.emod_lt_of_pos _ h⟩
def car (na c : Int) (k : Nat) : Prop := ∃ y, c + 1 = na ^ k * y
theorem car_0 (na c : Int) : car na c 0 := ⟨c + 1, by simp⟩
theorem car_d {na c y : Int} {k : Nat} (h : 0 < na) (e : c + 1 = na ^ k * y) : c / na ^ k = y - 1 := by
  have hP : 0 < na ^ k := Int.pow_pos h
  have e2 : c = (na ^ k - 1) + na ^ k * (y - 1) := by rw [Int.mul_sub, ← e]; omega
  rw [e2, Int.add_mul_ediv_left _ _ (by omega), Int.ediv_eq_zero_of_lt (by omega) (by omega)]
  omega
theorem car_d1 {na c y : Int} {k : Nat} (h : 0 < na) (e : c + 1 = na ^ k * y) : (c + 1) / na ^ k = y := by
  have hP : 0 < na ^ k := Int.pow_pos h
  rw [e, Int.mul_ediv_cancel_left _ (by omega)]
theorem car_1 {na c : Int} {k : Nat} (h : 0 < na) (hc : car na c k) (e : dgt na c k = na - 1) : car na c (k + 1) := by
  obtain ⟨y, hy⟩ := hc
  unfold dgt at e
  rw [car_d h hy] at e
  refine ⟨y / na, ?_⟩
  have e1 := Int.emod_add_mul_ediv (y - 1) na
  have e3 : y = na * ((y - 1) / na + 1) := by rw [Int.mul_add, Int.mul_one]; omega
  have e2 : y / na = (y - 1) / na + 1 := by
    have : na * ((y - 1) / na + 1) / na = (y - 1) / na + 1 := Int.mul_ediv_cancel_left _ (by omega)
    rw [← e3] at this
    exact this
  rw [hy, Int.pow_succ, Int.mul_assoc, e2, ← e3]
theorem car_hi {na c : Int} {k : Nat} (h : 0 < na) (hc : car na c k) (e : dgt na c k ≠ na - 1) : dgt na (c + 1) k = dgt na c k + 1 ∧ ∀ j, k < j → dgt na (c + 1) j = dgt na c j := by
  obtain ⟨y, hy⟩ := hc
  have d := dgt_in (c := c) (k := k) h
  have e1 := car_d h hy
  have e2 := car_d1 h hy
  have e5 := Int.emod_add_mul_ediv (y - 1) na
  have hd : dgt na c k = (y - 1) % na := by unfold dgt; rw [e1]
  have e6 : y = ((y - 1) % na + 1) + na * ((y - 1) / na) := by omega
  have e3 : y % na = (y - 1) % na + 1 := by
    have : (((y - 1) % na + 1) + na * ((y - 1) / na)) % na = (y - 1) % na + 1 := by
      rw [Int.add_mul_emod_self_left, Int.emod_eq_of_lt (by omega) (by omega)]
    rw [← e6] at this
    exact this
  have e4 : y / na = (y - 1) / na := by
    have : (((y - 1) % na + 1) + na * ((y - 1) / na)) / na = (y - 1) / na := by
      rw [Int.add_mul_ediv_left _ _ (by omega), Int.ediv_eq_zero_of_lt (by omega) (by omega)]
      omega
    rw [← e6] at this
    exact this
  refine ⟨by unfold dgt; rw [e1, e2, e3], fun j hj => ?_⟩
  have s : ∀ c : Int, c / na ^ j = c / na ^ k / na / na ^ (j - k - 1) := fun c => by
    rw [show j = k + 1 + (j - k - 1) by omega, Int.pow_add, Int.pow_succ, show k + 1 + (j - k - 1) - k - 1 = j - k - 1 by omega]
    rw [Int.ediv_ediv_of_nonneg (Int.le_of_lt (Int.pow_pos h)), Int.ediv_ediv_of_nonneg (Int.mul_nonneg (Int.le_of_lt (Int.pow_pos h)) (by omega))]
  unfold dgt
  rw [s, s c, e1, e2, e4]
theorem car_lo {na c : Int} {k j : Nat} (h : 0 < na) (hc : car na c k) (hj : j < k) : dgt na (c + 1) j = 0 := by
  obtain ⟨y, hy⟩ := hc
  have hP : 0 < na ^ j := Int.pow_pos h
  unfold dgt
  rw [hy, show k = j + ((k - j - 1) + 1) by omega, Int.pow_add, Int.mul_assoc, Int.mul_ediv_cancel_left _ (by omega), Int.pow_succ]
  rw [Int.mul_comm (na ^ (k - j - 1)) na, Int.mul_assoc, Int.mul_emod_right]
theorem dgt_all {na : Int} (h : 0 < na) (s : Nat → Int) : ∀ n : Nat, (∀ k, k < n → 0 ≤ s k ∧ s k < na) → ∃ c, 0 ≤ c ∧ c < na ^ n ∧ ∀ k, k < n → dgt na c k = s k := by
  intro n
  induction n with
  | zero => intro _; exact ⟨0, by omega, by simp, fun k hk => by omega⟩
  | succ n ih =>
    intro hs
    obtain ⟨c, c0, c1, c2⟩ := ih (fun k hk => hs k (by omega))
    have hP : 0 < na ^ n := Int.pow_pos h
    have sn := hs n (by omega)
    have b1 := mulL sn.2 (Int.le_of_lt hP)
    have b2 := mulN sn.1 (Int.le_of_lt hP)
    refine ⟨c + na ^ n * s n, by rw [Int.mul_comm]; omega, by rw [Int.pow_succ, Int.mul_comm (na ^ n) na, Int.mul_comm (na ^ n)]; omega, fun k hk => ?_⟩
    rcases (show k < n ∨ k = n by omega) with q | q
    · rw [← c2 k q]
      have hk2 : 0 < na ^ k := Int.pow_pos h
      unfold dgt
      have e : na ^ n * s n = na ^ k * (na * (na ^ (n - k - 1) * s n)) := by
        rw [← Int.mul_assoc, ← Int.mul_assoc, ← Int.pow_succ, ← Int.pow_add, show k + 1 + (n - k - 1) = n by omega]
      rw [e, Int.add_mul_ediv_left _ _ (by omega), Int.add_mul_emod_self_left]
    · subst q
      unfold dgt
      rw [Int.add_mul_ediv_left _ _ (by omega), Int.ediv_eq_zero_of_lt c0 c1, Int.zero_add, Int.emod_eq_of_lt sn.1 sn.2]
def erow (nq na c q : Int) : Int := dgt na c (nq - 1 - q).toNat
theorem erow_rw {nq na : Int} (c : Int) (h : 0 < na) : zrw nq na (erow nq na c) := fun _ _ _ => dgt_in h
theorem erow_all {nq na : Int} (h : 0 < na) {r : Int → Int} (hr : zrw nq na r) : ∃ c, 0 ≤ c ∧ c < na ^ nq.toNat ∧ ∀ q, 0 ≤ q → q < nq → erow nq na c q = r q := by
  obtain ⟨c, c0, c1, c2⟩ := dgt_all h (fun k => r (nq - 1 - k)) nq.toNat (fun k hk => hr _ (by omega) (by omega))
  refine ⟨c, c0, c1, fun q q1 q2 => ?_⟩
  unfold erow
  rw [c2 _ (by omega)]
  congr 1
  omega
theorem erow_0 {nq na : Int} (q : Int) (h : 0 < na) : erow nq na 0 q = 0 := by
  unfold erow dgt
  simp
/-- to the next row: how far it has gone, from question q on -/
def nxI (nq na c : Int) (r : Int → Int) (q : Int) : Prop := (-1 ≤ q ∧ q < nq) ∧ car na c (nq - 1 - q).toNat ∧ (∀ j, 0 ≤ j → j ≤ q → r j = erow nq na c j) ∧ ∀ j, q < j → j < nq → r j = 0
theorem nxI_0 {nq na c : Int} {r : Int → Int} (h : 0 ≤ nq) (e : ∀ j, 0 ≤ j → j < nq → r j = erow nq na c j) : nxI nq na c r (nq - 1) := by
  refine ⟨by omega, ?_, fun j h1 h2 => e j h1 (by omega), fun j h1 h2 => by omega⟩
  rw [show (nq - 1 - (nq - 1)).toNat = 0 by omega]
  exact car_0 _ _
theorem nxI_1 {nq na c q : Int} {r : Int → Int} (ha : 0 < na) (hq : 0 ≤ q) (h : nxI nq na c r q) (e : r q = na - 1) : nxI nq na c (gup r q 0) (q - 1) := by
  obtain ⟨h1, h2, h3, h4⟩ := h
  refine ⟨by omega, ?_, fun j j1 j2 => by rw [gup_off (by omega)]; exact h3 j j1 (by omega), fun j j1 j2 => ?_⟩
  · rw [show (nq - 1 - (q - 1)).toNat = (nq - 1 - q).toNat + 1 by omega]
    refine car_1 ha h2 ?_
    rw [h3 q hq (Int.le_refl _)] at e
    exact e
  · rcases (show j = q ∨ q < j by omega) with k | k
    · rw [k, gup_at]
    · rw [gup_off (by omega)]; exact h4 j k j2
theorem nxI_2 {nq na c q : Int} {r : Int → Int} (ha : 0 < na) (hq : 0 ≤ q) (h : nxI nq na c r q) (e : r q ≠ na - 1) : ∀ j, 0 ≤ j → j < nq → gup r q (r q + 1) j = erow nq na (c + 1) j := by
  obtain ⟨h1, h2, h3, h4⟩ := h
  have e1 := h3 q hq (Int.le_refl _)
  rw [e1] at e ⊢
  have k := car_hi ha h2 e
  intro j j1 j2
  rcases (show j = q ∨ j < q ∨ q < j by omega) with z | z | z
  · rw [z, gup_at]; exact k.1.symm
  · rw [gup_off (by omega), h3 j j1 (by omega)]
    exact (k.2 _ (by omega)).symm
  · rw [gup_off (by omega), h4 j z j2]
    exact (car_lo ha h2 (by omega)).symm
theorem nxI_end {nq na c : Int} {r : Int → Int} (ha : 0 < na) (h : nxI nq na c r (-1)) (h0 : 0 ≤ c) (hc : c < na ^ nq.toNat) : c + 1 = na ^ nq.toNat := by
  obtain ⟨y, hy⟩ := h.2.1
  rw [show (nq - 1 - -1).toNat = nq.toNat by congr 1; omega] at hy
  have hP : 0 < na ^ nq.toNat := Int.pow_pos ha
  rcases (show y ≤ 0 ∨ y = 1 ∨ 2 ≤ y by omega) with q | q | q
  · have := Int.mul_le_mul_of_nonneg_left q (Int.le_of_lt hP)
    omega
  · rw [hy, q, Int.mul_one]
  · have := Int.mul_le_mul_of_nonneg_left q (Int.le_of_lt hP)
    omega
theorem nxI_more {nq na c q : Int} {r : Int → Int} (ha : 0 < na) (hq : 0 ≤ q) (h : nxI nq na c r q) (e : r q ≠ na - 1) (h0 : 0 ≤ c) (hc : c < na ^ nq.toNat) : c + 1 < na ^ nq.toNat := by
  rcases (show c + 1 < na ^ nq.toNat ∨ c + 1 = na ^ nq.toNat by omega) with k | k
  · exact k
  · exfalso
    apply e
    have hqb := h.1
    have hd := dgt_in (c := c) (k := (nq - 1 - q).toNat) ha
    rw [h.2.2.1 q hq (Int.le_refl _)]
    unfold erow
    have e2 : c + 1 = na ^ (nq - 1 - q).toNat * (na ^ (q.toNat + 1)) := by
      rw [← Int.pow_add, k]; congr 1; omega
    have e3 := car_d ha e2
    unfold dgt
    rw [e3, Int.pow_succ]
    have e4 : na ^ q.toNat * na - 1 = (na - 1) + na * (na ^ q.toNat - 1) := by rw [Int.mul_sub, Int.mul_one, Int.mul_comm na]; omega
    rw [e4, Int.add_mul_emod_self_left, Int.emod_eq_of_lt (by omega) (by omega)]
/-! some questions of a player -/
def sbit (S q : Int) : Prop := zand (zshr S q) 1 = 1
noncomputable def cnt (S : Int) (n : Int) : Int := zsum n.toNat fun q => zb (sbit S q)
noncomputable def sel (S : Int) : Nat → Int → Int
  | 0 => fun _ => 0
  | n + 1 => @ite _ (sbit S n) (Classical.propDecidable _) (zput (sel S n) (cnt S n) n) (sel S n)
theorem cnt_1 {S q : Int} (h : 0 ≤ q) : cnt S (q + 1) = cnt S q + zb (sbit S q) := zsum_1 h _
theorem cnt_in {S : Int} (n : Int) (h : 0 ≤ n) : 0 ≤ cnt S n ∧ cnt S n ≤ n := by
  have := zsum_le (C := 1) (f := fun q => zb (sbit S q)) (by decide) (fun q => zb_01) n.toNat
  unfold cnt
  omega
theorem sel_t {S : Int} {n : Nat} (h : sbit S n) : sel S (n + 1) = zput (sel S n) (cnt S n) n := by rw [sel]; exact if_pos h
theorem sel_f {S : Int} {n : Nat} (h : ¬ sbit S n) : sel S (n + 1) = sel S n := by rw [sel]; exact if_neg h
theorem sel_in {S : Int} : ∀ (n : Nat) (k : Int), 0 ≤ k → k < cnt S n → (0 ≤ sel S n k ∧ sel S n k < n) ∧ sbit S (sel S n k) ∧ cnt S (sel S n k) = k := by
  intro n
  induction n with
  | zero => intro k h1 h2; have : cnt S ((0 : Nat) : Int) = 0 := rfl; omega
  | succ n ih =>
    intro k h1 h2
    rw [show ((n + 1 : Nat) : Int) = (n : Int) + 1 by omega, cnt_1 (by omega)] at h2
    rcases Classical.em (sbit S n) with q | q
    · rw [zb_t q] at h2
      rw [sel_t q]
      unfold zput
      rcases (show k = cnt S n ∨ k < cnt S n by omega) with z | z
      · rw [if_pos z]; exact ⟨by omega, q, z.symm⟩
      · rw [if_neg (by omega)]
        have := ih k h1 z
        exact ⟨by omega, this.2⟩
    · rw [zb_f q] at h2
      rw [sel_f q]
      have := ih k h1 (by omega)
      exact ⟨by omega, this.2⟩
theorem sel_sum {S : Int} (h : Int → Int) : ∀ n : Nat, zsum (cnt S n).toNat (fun k => h (sel S n k)) = zsum n (fun q => zite (sbit S q) (h q) 0) := by
  intro n
  induction n with
  | zero => rfl
  | succ n ih =>
    have hn := cnt_in (S := S) n (by omega)
    rw [show ((n + 1 : Nat) : Int) = (n : Int) + 1 by omega, cnt_1 (by omega), zsum]
    rcases Classical.em (sbit S n) with q | q
    · rw [zb_t q, zite_t q, sel_t q, zsum_1 hn.1, ← ih]
      congr 1
      · refine zsum_congr _ (fun i h1 h2 => ?_)
        unfold zput
        rw [if_neg (by omega)]
      · unfold zput
        rw [if_pos rfl]
    · rw [zb_f q, zite_f q, sel_f q, ← ih]
      simp
theorem sbit_31 : ∀ q : Int, 0 ≤ q → q < 5 → sbit 31 q := by
  intro q h1 h2
  have : q = 0 ∨ q = 1 ∨ q = 2 ∨ q = 3 ∨ q = 4 := by omega
  unfold sbit
  rcases this with e | e | e | e | e <;> subst e <;> decide
theorem sel_31 : ∀ n : Nat, n ≤ 5 → cnt 31 n = n ∧ ∀ k : Int, 0 ≤ k → k < n → sel 31 n k = k := by
  intro n
  induction n with
  | zero => intro _; exact ⟨rfl, fun k h1 h2 => by omega⟩
  | succ n ih =>
    intro h
    have i := ih (by omega)
    have b := sbit_31 n (by omega) (by omega)
    rw [show ((n + 1 : Nat) : Int) = (n : Int) + 1 by omega, cnt_1 (by omega), zb_t b, sel_t b, i.1]
    refine ⟨rfl, fun k h1 h2 => ?_⟩
    unfold zput
    by_cases q : k = n
    · rw [if_pos q, q]
    · rw [if_neg q]; exact i.2 k h1 (by omega)
/-- what is loaded of a game: answer a to question q, at place i -/
def fP (G : GR) (p q a i : Int) : Int := pW G p q (i / nA G (1 - p)) * pV G p q (i / nA G (1 - p)) a (i % nA G (1 - p))
theorem fP_at {G : GR} {p q a o j : Int} (hj : 0 ≤ j ∧ j < nA G (1 - p)) : fP G p q a (o * nA G (1 - p) + j) = pW G p q o * pV G p q o a j := by
  unfold fP
  rw [lin_d hj.1 hj.2, lin_m hj.1 hj.2]
theorem fP_in {G : GR} (ho : GOK G) (p q a i : Int) : 0 ≤ fP G p q a i ∧ fP G p q a i ≤ 9 := ho.WV _ _ _ _ _
