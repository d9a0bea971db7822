/-! TABLE, fourth: all rows gone through -/
theorem zhn_congr {r s : Int → Int} : ∀ n : Nat, (∀ q : Int, 0 ≤ q → q < n → r q = s q) → zhn n r = zhn n s := by
  intro n
  induction n with
  | zero => intro _; rfl
  | succ n ih =>
    intro h
    rw [zhn, zhn, ih (fun q q0 q1 => h q q0 (by omega)), h n (by omega) (by omega)]
def zprd : Nat → (Int → Int) → Int
  | 0, _ => 1
  | n + 1, f => zprd n f * f n
theorem zprd_1 {i : Int} (h : 0 ≤ i) (f : Int → Int) : zprd (i + 1).toNat f = zprd i.toNat f * f i := by
  have e : (i + 1).toNat = i.toNat + 1 := by omega
  rw [e, zprd]
  congr 2
  omega
theorem zprd_congr {f g : Int → Int} : ∀ n : Nat, (∀ i : Int, 0 ≤ i → i < n → f i = g i) → zprd n f = zprd n g := by
  intro n
  induction n with
  | zero => intro _; rfl
  | succ n ih =>
    intro h
    rw [zprd, zprd, ih (fun q q0 q1 => h q q0 (by omega)), h n (by omega) (by omega)]
theorem zprd_head {f : Int → Int} : ∀ n : Nat, zprd (n + 1) f = f 0 * zprd n (fun k => f (k + 1)) := by
  intro n
  induction n with
  | zero => simp [zprd]
  | succ n ih => rw [zprd, ih, zprd, Int.mul_assoc]; rfl
theorem zprd_in {f : Int → Int} : ∀ n : Nat, n ≤ 5 → (∀ i : Int, 0 ≤ i → i < n → 0 ≤ f i ∧ f i ≤ 4) → 0 ≤ zprd n f ∧ zprd n f ≤ 4 ^ n := by
  intro n
  induction n with
  | zero => intro _ _; simp [zprd]
  | succ n ih =>
    intro h5 h
    have h1 := ih (by omega) (fun i i0 i1 => h i i0 (by omega))
    have h2 := h n (by omega) (by omega)
    have h3 := zmul_in h1 h2
    rw [zprd, Int.pow_succ]
    exact h3
theorem zprd_pos {f : Int → Int} : ∀ n : Nat, (∀ i : Int, 0 ≤ i → i < n → 1 ≤ f i) → 1 ≤ zprd n f := by
  intro n
  induction n with
  | zero => intro _; simp [zprd]
  | succ n ih =>
    intro h
    have h1 := ih (fun i i0 i1 => h i i0 (by omega))
    have h2 := h n (by omega) (by omega)
    rw [zprd]
    have := Int.mul_le_mul h1 h2 (by decide) (by omega)
    omega
theorem zprd_put {f : Int → Int} {y v : Int} : ∀ n : Nat, 0 ≤ y → y < n → zprd n (zput f y v) * f y = zprd n f * v := by
  intro n
  induction n with
  | zero => intro h0 h1; omega
  | succ n ih =>
    intro h0 h1
    rw [zprd, zprd]
    rcases (show y < n ∨ y = n by omega) with q | q
    · have e : zput f y v n = f n := by unfold zput; rw [if_neg (by omega)]
      rw [e, Int.mul_assoc, Int.mul_comm (f n) (f y), ← Int.mul_assoc, ih h0 q, Int.mul_assoc, Int.mul_comm v, ← Int.mul_assoc]
    · have e : zput f y v n = v := by unfold zput; rw [if_pos q.symm]
      have e2 : zprd n (zput f y v) = zprd n f := zprd_congr n (fun i i0 i1 => by unfold zput; rw [if_neg (by omega)])
      rw [e, e2, q, Int.mul_assoc, Int.mul_comm v, ← Int.mul_assoc]
/-- the replies of a group that bring most -/
def isTop (nq nr : Int) (f : Int → Int → Int → Int) (r : Int → Int) (g j : Int) : Prop := zS_ f r nq (g * nr + j) = tHi nq nr f r g
noncomputable def tTops (nq nr : Int) (f : Int → Int → Int → Int) (r : Int → Int) (g : Int) : Int := zsum nr.toNat fun j => zb (isTop nq nr f r g j)
noncomputable def tWays (nq ng nr : Int) (f : Int → Int → Int → Int) (r : Int → Int) (g : Int) : Int := zprd (ng - g).toNat fun k => tTops nq nr f r (g + k)
noncomputable def tLose (nq nr : Int) (f : Int → Int → Int → Int) (r : Int → Int) (g : Int) (L : Int → Prop) : Int := zsum nr.toNat fun j => zb (isTop nq nr f r g j ∧ L j)
theorem tTops_in {nq nr : Int} {f : Int → Int → Int → Int} {r : Int → Int} {g : Int} (h : 1 ≤ nr) : 1 ≤ tTops nq nr f r g ∧ tTops nq nr f r g ≤ nr := by
  have h1 := zsum_le (C := 1) (f := fun j => zb (isTop nq nr f r g j)) (by decide) (fun j => zb_01) nr.toNat
  obtain ⟨j, j0, j1, j2⟩ := zhi_at (h := fun j => zS_ f r nq (g * nr + j)) (nr - 1).toNat
  have key : ∀ n : Nat, j < n → 1 ≤ zsum n (fun j => zb (isTop nq nr f r g j)) := by
    intro n
    induction n with
    | zero => intro h; omega
    | succ n ih =>
      intro h
      rw [zsum]
      have hz : 0 ≤ zb (isTop nq nr f r g n) := zb_01.1
      have hz2 := zsum_le (C := 1) (f := fun j => zb (isTop nq nr f r g j)) (by decide) (fun j => zb_01) n
      rcases (show j < n ∨ j = n by omega) with q | q
      · have := ih q; omega
      · rw [zb_t (show isTop nq nr f r g n by rw [← q]; exact j2.symm)]
        omega
  have := key nr.toNat (by omega)
  unfold tTops
  omega
theorem tWays_s {nq ng nr : Int} {f : Int → Int → Int → Int} {r : Int → Int} {g : Int} (h : g < ng) : tWays nq ng nr f r g = tTops nq nr f r g * tWays nq ng nr f r (g + 1) := by
  unfold tWays
  rw [show (ng - g).toNat = (ng - (g + 1)).toNat + 1 by omega, zprd_head, Int.add_zero]
  congr 1
  exact zprd_congr _ (fun i _ _ => by rw [show g + (i + 1) = g + 1 + i by omega])
theorem p4_in {n : Nat} (h : n ≤ 5) : (4 : Int) ^ n ≤ 1024 := (pw_in (na := 4) (by decide) h).2
theorem tWays_in {nq ng nr : Int} {f : Int → Int → Int → Int} {r : Int → Int} {g : Int} (h : 1 ≤ nr ∧ nr ≤ 4) (hg : 0 ≤ g ∧ g ≤ ng ∧ ng ≤ 5) : 1 ≤ tWays nq ng nr f r g ∧ tWays nq ng nr f r g ≤ 1024 := by
  have h1 := zprd_in (f := fun k => tTops nq nr f r (g + k)) (ng - g).toNat (by omega) (fun i _ _ => by have := tTops_in (nq := nq) (f := f) (r := r) (g := g + i) h.1; (try simp only []); omega)
  have h2 := zprd_pos (f := fun k => tTops nq nr f r (g + k)) (ng - g).toNat (fun i _ _ => (tTops_in h.1).1)
  have h3 := p4_in (n := (ng - g).toNat) (by omega)
  unfold tWays
  omega
theorem c_Table_isTopReply {d : Nat} {kd : ZK} {m : ZM} {nq na ng nr w : Int} {f : Int → Int → Int → Int} {r : Int → Int} {g j : Int} (hT : TL kd m nq na ng nr w f) (hS : SL m nq w f r) (hg : 0 ≤ g ∧ g < ng) (hj : 0 ≤ j ∧ j < nr) : CtI (d + 2) M_Table_isTopReply [(2, 45), (0, g), (0, j)] kd m (qE m (zb (isTop nq nr f r g j))) := by
  have hZ := hT.2.1
  have hsz := hZ.1
  have hww := hZ.2.1
  have h1 := hZ.ln (n := nq) (by omega)
  have h2 := hZ.gr hg
  have t0 := hT.1.2.1.1
  have t1 := hT.1.2.1.2.1
  have t2 := hT.1.2.1.2.2.1
  have t3 := hT.1.2.1.2.2.2.1
  have t4 := hT.1.2.1.2.2.2.2
  have t5 := hT.1.2.2.1.1
  have t6 := hT.1.2.2.1.2.1
  have t7 := hT.1.2.2.1.2.2.1
  have t8 := hT.1.2.2.1.2.2.2.1
  have t9 := hT.1.2.2.1.2.2.2.2.1
  have t10 := hT.1.2.2.1.2.2.2.2.2
  refine S_Table_isTopReply ?_
  try simp only [t0, t1, t2, t3, t4, t5, t6, t7, t8, t9, t10]
  rw [iw_s (x := nq * w) (by omega) (by omega), iw_s (x := g * nr) (by omega) (by omega), iw_s (x := nq * w + g * nr) (by omega) (by omega), iw_s (x := nq * w + g * nr + j) (by omega) (by omega), show nq * w + g * nr + j = nq * w + (g * nr + j) by omega]
  refine ⟨hT.1.1, hT.1.1, hT.1.1, hT.1.1, (hT.1.i47 (by omega) (by omega)), ?_⟩
  refine ⟨hT.1.1, _, c_Table_highAt hT hS hg, ?_⟩
  rintro _ _ ⟨rfl, rfl⟩
  rw [hS _ (by omega) (by omega)]
  refine ⟨fun c1 => ?_, fun c1 => ?_⟩
  · skip
    first | exact ⟨(zb_f (by assumption)).symm, rfl⟩ | exact ⟨(zb_t (Classical.not_not.1 (by assumption))).symm, rfl⟩
  · skip
    first | exact ⟨(zb_f (by assumption)).symm, rfl⟩ | exact ⟨(zb_t (Classical.not_not.1 (by assumption))).symm, rfl⟩
theorem c_Table_topReplies {d : Nat} {kd : ZK} {m : ZM} {nq na ng nr w : Int} {f : Int → Int → Int → Int} {r : Int → Int} {g : Int} (hT : TL kd m nq na ng nr w f) (hS : SL m nq w f r) (hg : 0 ≤ g ∧ g < ng) : CtI (d + 2) M_Table_topReplies [(2, 45), (0, g)] kd m (qE m (tTops nq nr f r g)) := by
  have hZ := hT.2.1
  have hsz := hZ.1
  have hww := hZ.2.1
  have h1 := hZ.ln (n := nq) (by omega)
  have h2 := hZ.gr hg
  have t0 := hT.1.2.1.1
  have t1 := hT.1.2.1.2.1
  have t2 := hT.1.2.1.2.2.1
  have t3 := hT.1.2.1.2.2.2.1
  have t4 := hT.1.2.1.2.2.2.2
  have t5 := hT.1.2.2.1.1
  have t6 := hT.1.2.2.1.2.1
  have t7 := hT.1.2.2.1.2.2.1
  have t8 := hT.1.2.2.1.2.2.2.1
  have t9 := hT.1.2.2.1.2.2.2.2.1
  have t10 := hT.1.2.2.1.2.2.2.2.2
  have ei : iw (nq * w + g * nr + nr) = nq * w + g * nr + nr := iw_s (by omega) (by omega)
  have L0 := zfor2 (nr) (fun (j : Int) (t : Int) (i : Int) => Ev (d + 2) M_Table_topReplies 0 0 29 [(2, 45), zJ, (0, (tHi nq nr f r g)), (0, (nq * w + g * nr)), (0, t), (0, i)] [] kd m (zqI kd (qE m (tTops nq nr f r g)))) (fun (j : Int) (t : Int) (i : Int) => 0 ≤ j ∧ i = nq * w + g * nr + j ∧ t = zsum j.toNat (fun j => zb (isTop nq nr f r g j))) (by
    intro j t i hb hI0 KL0
    obtain ⟨hj0, hi, ht⟩ := hI0
    have hs := zsum_le (C := 1) (f := (fun j => zb (isTop nq nr f r g j))) (by decide) (fun _ => zb_01) j.toNat
    have hv : j < nr → m 47 i = zS_ f r nq (g * nr + j) := fun h => by rw [show i = nq * w + (g * nr + j) by omega]; exact hS _ (by omega) (by omega)
    refine T_Table_topReplies_29 ?_
    try simp only [t0, t1, t2, t3, t4, t5, t6, t7, t8, t9, t10]
    simp only [ei]
    refine ⟨hT.1.1, ?_⟩
    refine ⟨fun c1 => ?_, fun c1 => ?_⟩
    · skip
      exact ⟨by rw [ht, show j = nr by omega]; rfl, rfl⟩
    · skip
      refine ⟨hT.1.1, (hT.1.i47 (by omega) (by omega)), ?_⟩
      refine ⟨fun c2 => ?_, fun c2 => ?_⟩
      · skip
        have e1 := hv (by omega)
        skip
        rw [iw_s (x := i + 1) (by omega) (by omega)]
        have hb2 : zb (isTop nq nr f r g j) = 0 := zb_f (by unfold isTop; omega)
        exact KL0 _ _ (by omega) ⟨by omega, by omega, by rw [zsum_1 hj0, hb2, ht]; omega⟩
      · skip
        have e1 := hv (by omega)
        skip
        rw [iw_s (x := i + 1) (by omega) (by omega), iw_s (x := t + 1) (by omega) (by omega)]
        have hb2 : zb (isTop nq nr f r g j) = 1 := zb_t (by unfold isTop; omega)
        exact KL0 _ _ (by omega) ⟨by omega, by omega, by rw [zsum_1 hj0, hb2, ht]⟩)
  refine S_Table_topReplies ?_
  try simp only [t0, t1, t2, t3, t4, t5, t6, t7, t8, t9, t10]
  refine ⟨hT.1.1, _, c_Table_highAt hT hS hg, ?_⟩
  rintro _ _ ⟨rfl, rfl⟩
  try simp only [t0, t1, t2, t3, t4, t5, t6, t7, t8, t9, t10]
  rw [iw_s (x := nq * w) (by omega) (by omega), iw_s (x := g * nr) (by omega) (by omega), iw_s (x := nq * w + g * nr) (by omega) (by omega)]
  refine ⟨hT.1.1, hT.1.1, hT.1.1, ?_⟩
  exact L0 0 0 _ (by omega) ⟨by omega, by omega, rfl⟩
theorem c_Table_topRowsFrom {d : Nat} {kd : ZK} {m : ZM} {nq na ng nr w : Int} {f : Int → Int → Int → Int} {r : Int → Int} {g : Int} (hT : TL kd m nq na ng nr w f) (hS : SL m nq w f r) (hg : 0 ≤ g ∧ g ≤ ng) (h4 : nr ≤ 4) (h5 : ng ≤ 5) : CtI (d + 3) M_Table_topRowsFrom [(2, 45), (0, g)] kd m (qE m (tWays nq ng nr f r g)) := by
  have hZ := hT.2.1
  have hsz := hZ.1
  have t0 := hT.1.2.1.1
  have t1 := hT.1.2.1.2.1
  have t2 := hT.1.2.1.2.2.1
  have t3 := hT.1.2.1.2.2.2.1
  have t4 := hT.1.2.1.2.2.2.2
  have t5 := hT.1.2.2.1.1
  have t6 := hT.1.2.2.1.2.1
  have t7 := hT.1.2.2.1.2.2.1
  have t8 := hT.1.2.2.1.2.2.2.1
  have t9 := hT.1.2.2.1.2.2.2.2.1
  have t10 := hT.1.2.2.1.2.2.2.2.2
  have L0 := zfor1 (ng) (fun (l : Int) (t : Int) => Ev (d + 3) M_Table_topRowsFrom 0 0 4 [(2, 45), zJ, (0, t), (0, l)] [] kd m (zqI kd (qE m (tWays nq ng nr f r g)))) (fun (l : Int) (t : Int) => g ≤ l ∧ t = zprd (l - g).toNat (fun k => tTops nq nr f r (g + k))) (by
    intro l t hb hI0 KL0
    obtain ⟨hl0, ht⟩ := hI0
    have hp1 := zprd_in (f := (fun k => tTops nq nr f r (g + k))) (l - g).toNat (by omega) (fun i _ _ => by have := tTops_in (nq := nq) (f := f) (r := r) (g := g + i) hsz.2.2.2.1; (try simp only []); omega)
    have hp2 := p4_in (n := (l - g).toNat) (by omega)
    have hp3 := tTops_in (nq := nq) (f := f) (r := r) (g := l) hsz.2.2.2.1
    have hp4 := zmul_in (a := t) (b := tTops nq nr f r l) (A := 1024) (B := 4) (by omega) (by omega)
    refine T_Table_topRowsFrom_4 ?_
    try simp only [t0, t1, t2, t3, t4, t5, t6, t7, t8, t9, t10]
    refine ⟨hT.1.1, ?_⟩
    refine ⟨fun c1 => ?_, fun c1 => ?_⟩
    · skip
      exact ⟨by rw [ht, show l = ng by omega]; rfl, rfl⟩
    · skip
      refine ⟨hT.1.1, _, c_Table_topReplies hT hS ⟨by omega, by omega⟩, ?_⟩
      rintro _ _ ⟨rfl, rfl⟩
      rw [iw_s (x := l + 1) (by omega) (by omega)]
      rw [iw_s (by omega) (by omega)]
      have x1 := zprd_1 (i := l - g) (by omega) (fun k => tTops nq nr f r (g + k))
      exact KL0 _ (by omega) ⟨by omega, by rw [show l + 1 - g = l - g + 1 by omega, x1, ht, show g + (l - g) = l by omega]⟩)
  refine S_Table_topRowsFrom ?_
  exact L0 g 1 (by omega) ⟨by omega, by rw [Int.sub_self]; rfl⟩
theorem c_Table_topRepliesLosing {d : Nat} {kd : ZK} {m : ZM} {nq na ng nr w : Int} {f : Int → Int → Int → Int} {h : Int} {G : GR} {r : Int → Int} {x g : Int} (hT : TL kd m nq na ng nr w f) (hS : SL m nq w f r) (hg : 0 ≤ g ∧ g < ng) (hc : CG kd m h G) (ho : GOK G) (hq : nq = G 0 ∧ na = G 2 ∧ ng = G 1 ∧ nr = G 3) (hx : 0 ≤ x ∧ x < nq) (hr : zrw nq na r) (hR : ∀ j, 0 ≤ j → j < nq → m 50 j = r j) : CtI (d + 3) M_Table_topRepliesLosing [(2, 45), (2, h), (0, x), (0, g)] kd m (qE m (tLose nq nr f r g (fun j => gV G x g (r x) j = 0))) := by
  have hZ := hT.2.1
  have hsz := hZ.1
  have h0 := ho.1
  have hrx := hr x hx.1 hx.2
  have hmx := hR x hx.1 hx.2
  have t0 := hT.1.2.1.1
  have t1 := hT.1.2.1.2.1
  have t2 := hT.1.2.1.2.2.1
  have t3 := hT.1.2.1.2.2.2.1
  have t4 := hT.1.2.1.2.2.2.2
  have t5 := hT.1.2.2.1.1
  have t6 := hT.1.2.2.1.2.1
  have t7 := hT.1.2.2.1.2.2.1
  have t8 := hT.1.2.2.1.2.2.2.1
  have t9 := hT.1.2.2.1.2.2.2.2.1
  have t10 := hT.1.2.2.1.2.2.2.2.2
  have L0 := zfor1 (nr) (fun (j : Int) (t : Int) => Ev (d + 3) M_Table_topRepliesLosing 0 0 6 [(2, 45), (2, h), (0, x), (0, g), (0, t), (0, j)] [] kd m (zqI kd (qE m (tLose nq nr f r g (fun j => gV G x g (r x) j = 0))))) (fun (j : Int) (t : Int) => 0 ≤ j ∧ t = zsum j.toNat (fun j => zb (isTop nq nr f r g j ∧ gV G x g (r x) j = 0))) (by
    intro j t hb hI0 KL0
    obtain ⟨hj0, ht⟩ := hI0
    have hs := zsum_le (C := 1) (f := (fun j => zb (isTop nq nr f r g j ∧ gV G x g (r x) j = 0))) (by decide) (fun _ => zb_01) j.toNat
    refine T_Table_topRepliesLosing_6 ?_
    try simp only [t0, t1, t2, t3, t4, t5, t6, t7, t8, t9, t10]
    refine ⟨hT.1.1, ?_⟩
    refine ⟨fun c1 => ?_, fun c1 => ?_⟩
    · try simp only [zb_eq0, zb_ne0] at c1
      exact ⟨by rw [ht, show j = nr by omega]; rfl, rfl⟩
    · try simp only [zb_eq0, zb_ne0] at c1
      refine ⟨hT.1.1, _, c_Table_isTopReply hT hS hg ⟨hj0, by omega⟩, ?_⟩
      rintro _ _ ⟨rfl, rfl⟩
      try simp only [t0, t1, t2, t3, t4, t5, t6, t7, t8, t9, t10]
      try simp only [hmx]
      refine ⟨fun c2 => ?_, fun c2 => ?_⟩
      · try simp only [zb_eq0, zb_ne0] at c2
        rw [iw_s (x := j + 1) (by omega) (by omega)]
        refine KL0 _ (by omega) ⟨by omega, ?_⟩
        rw [zsum_1 hj0, zb_f (fun e => by first | exact absurd e.1 (by assumption) | exact absurd e.2 (by assumption)), ht]
        omega
      · try simp only [zb_eq0, zb_ne0] at c2
        refine ⟨hc.1.1, hT.1.1, (hT.1.i50 (by omega) (by omega)), ?_⟩
        refine ⟨_, c_Ap_spotOf (by omega) (by omega) (by omega) (by omega), ?_⟩
        rintro _ _ ⟨rfl, rfl⟩
        rw [hc.V0 (x := x) (y := g) (a := r x) (b := j) (by omega) (by omega) (by omega) (by omega)]
        refine ⟨(hc.1.inV (zS_in (by omega) (by omega) (by omega) (by omega))), ?_⟩
        refine ⟨fun c3 => ?_, fun c3 => ?_⟩
        · try simp only [zb_eq0, zb_ne0] at c3
          rw [iw_s (x := j + 1) (by omega) (by omega)]
          refine KL0 _ (by omega) ⟨by omega, ?_⟩
          rw [zsum_1 hj0, zb_f (fun e => by first | exact absurd e.1 (by assumption) | exact absurd e.2 (by assumption)), ht]
          omega
        · try simp only [zb_eq0, zb_ne0] at c3
          rw [iw_s (x := j + 1) (by omega) (by omega)]
          rw [iw_s (x := t + 1) (by omega) (by omega)]
          exact KL0 _ (by omega) ⟨by omega, by rw [zsum_1 hj0, zb_t ⟨by first | assumption | exact Classical.not_not.1 (by assumption), by first | assumption | exact Classical.not_not.1 (by assumption)⟩, ht]⟩)
  refine S_Table_topRepliesLosing ?_
  exact L0 0 0 (by omega) ⟨by omega, rfl⟩
