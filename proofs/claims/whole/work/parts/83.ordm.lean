/-! ORDERS: bits, sums over orders -/
theorem bit5 : ∀ u : Fin 32, ∀ q : Fin 5, zand (zshr (u.1 : Int) (q.1 : Int)) 1 = 0 ∨ zand (zshr (u.1 : Int) (q.1 : Int)) 1 = 1 := by decide +kernel
theorem bit5o : ∀ u : Fin 32, ∀ x : Fin 5, (0 ≤ zor (u.1 : Int) (zshl 1 (x.1 : Int)) ∧ zor (u.1 : Int) (zshl 1 (x.1 : Int)) < 32) ∧ ∀ q : Fin 5, (zand (zshr (zor (u.1 : Int) (zshl 1 (x.1 : Int))) (q.1 : Int)) 1 = 1 ↔ zand (zshr (u.1 : Int) (q.1 : Int)) 1 = 1 ∨ q.1 = x.1) := by decide +kernel
theorem sbit_z : ∀ q : Fin 5, ¬ zand (zshr 0 (q.1 : Int)) 1 = 1 := by decide +kernel
def b32 (u : Int) : Prop := 0 ≤ u ∧ u < 32
theorem fin_of {x : Int} {n : Nat} (h : 0 ≤ x ∧ x < n) : ∃ q : Fin n, (q.1 : Int) = x := ⟨⟨x.toNat, by omega⟩, by show ((x.toNat : Nat) : Int) = x; omega⟩
theorem sbit_01 {u q : Int} (hu : b32 u) (hq : 0 ≤ q ∧ q < 5) : (¬ sbit u q ↔ zand (zshr u q) 1 = 0) := by
  obtain ⟨a, rfl⟩ := fin_of (n := 32) hu
  obtain ⟨b, rfl⟩ := fin_of (n := 5) hq
  unfold sbit
  rcases bit5 a b with e | e <;> rw [e] <;> decide
def uor (u x : Int) : Int := zor u (zshl 1 x)
theorem uor_in {u x : Int} (hu : b32 u) (hx : 0 ≤ x ∧ x < 5) : b32 (uor u x) := by
  obtain ⟨a, rfl⟩ := fin_of (n := 32) hu
  obtain ⟨b, rfl⟩ := fin_of (n := 5) hx
  exact (bit5o a b).1
theorem uor_b {u x q : Int} (hu : b32 u) (hx : 0 ≤ x ∧ x < 5) (hq : 0 ≤ q ∧ q < 5) : sbit (uor u x) q ↔ sbit u q ∨ q = x := by
  obtain ⟨a, rfl⟩ := fin_of (n := 32) hu
  obtain ⟨b, rfl⟩ := fin_of (n := 5) hx
  obtain ⟨c, rfl⟩ := fin_of (n := 5) hq
  have := (bit5o a b).2 c
  unfold sbit uor
  rw [this]
  omega
theorem sbit_0 {q : Int} (hq : 0 ≤ q ∧ q < 5) : ¬ sbit 0 q := by
  obtain ⟨c, rfl⟩ := fin_of (n := 5) hq
  exact sbit_z c
theorem zsum_head {f : Int → Int} : ∀ n : Nat, zsum (n + 1) f = f 0 + zsum n (fun i => f (i + 1)) := by
  intro n
  induction n with
  | zero => simp [zsum]
  | succ n ih => rw [zsum, ih, zsum]; simp only [Int.natCast_add, Int.add_assoc]; rfl
theorem zsum_const {P : Int → Prop} {f : Int → Int} {v : Int} : ∀ n : Nat, (∀ z : Int, 0 ≤ z → z < n → P z → f z = v) → zsum n (fun z => zite (P z) (f z) 0) = zsum n (fun z => zb (P z)) * v := by
  intro n
  induction n with
  | zero => intro _; simp [zsum]
  | succ n ih =>
    intro h
    rw [zsum, zsum, ih (fun z z0 z1 => h z z0 (by omega)), Int.add_mul]
    congr 1
    rcases Classical.em (P n) with q | q
    · rw [zite_t q, zb_t q, h n (by omega) (by omega) q, Int.one_mul]
    · rw [zite_f q, zb_f q, Int.zero_mul]
theorem zsum_less {P : Int → Prop} {x : Int} : ∀ n : Nat, 0 ≤ x → (x < n → zsum n (fun z => zb (P z ∧ z ≠ x)) = zsum n (fun z => zb (P z)) - zb (P x)) ∧ (n ≤ x → zsum n (fun z => zb (P z ∧ z ≠ x)) = zsum n (fun z => zb (P z))) := by
  intro n
  induction n with
  | zero => intro h; exact ⟨fun h2 => by omega, fun _ => rfl⟩
  | succ n ih =>
    intro h
    have i := ih h
    simp only [zsum]
    refine ⟨fun h2 => ?_, fun h2 => ?_⟩
    · rcases (show x < n ∨ x = n by omega) with q | q
      · rw [i.1 q, zb_congr (show (P n ∧ (n : Int) ≠ x) ↔ P n from ⟨fun z => z.1, fun z => ⟨z, by omega⟩⟩)]
        omega
      · rw [i.2 (by omega), zb_f (fun z => z.2 q.symm), q]
        omega
    · rw [i.2 (by omega), zb_congr (show (P n ∧ (n : Int) ≠ x) ↔ P n from ⟨fun z => z.1, fun z => ⟨z, by omega⟩⟩)]
theorem zsum_nz {P : Int → Prop} (n : Nat) (h : zsum n (fun z => zb (P z)) ≠ 0) : ∃ z : Int, 0 ≤ z ∧ z < n ∧ P z := Classical.byContradiction fun hn => h (zsum_zero n (fun i i0 i1 => zb_f (fun hp => hn ⟨i, i0, i1, hp⟩)))
/-! the other one's orders -/
noncomputable def bSum (n : Int) (L : Int → Int → Prop) : Nat → Int → Int
  | 0, _ => 1
  | k + 1, u => zsum n.toNat fun z => zite (¬ sbit u z ∧ L (n - (k + 1)) z) (bSum n L k (uor u z)) 0
noncomputable def cntL (n : Int) (L : Int → Int → Prop) (u y : Int) : Int := zsum n.toNat fun z => zb (¬ sbit u z ∧ L y z)
/-- who looks like one of a few looks like all -/
def dif (L : Int → Int → Prop) : Prop := ∀ y z y2 z2, L y z → L y z2 → (L y2 z ↔ L y2 z2)
theorem cntL_u {n : Int} {L : Int → Int → Prop} {u x y : Int} (hn : 0 ≤ n ∧ n ≤ 5) (hu : b32 u) (hx : 0 ≤ x ∧ x < n) (hf : ¬ sbit u x) : cntL n L (uor u x) y = cntL n L u y - zb (L y x) := by
  have h := (zsum_less (P := fun z => ¬ sbit u z ∧ L y z) (x := x) n.toNat hx.1).1 (by omega)
  rw [zb_congr (show (¬ sbit u x ∧ L y x) ↔ L y x from ⟨fun z => z.2, fun z => ⟨hf, z⟩⟩)] at h
  unfold cntL
  rw [← h]
  refine zsum_congr _ (fun i i0 i1 => zb_congr ?_)
  rw [uor_b hu ⟨hx.1, by omega⟩ ⟨i0, by omega⟩]
  constructor
  · intro z
    exact ⟨⟨fun a => z.1 (Or.inl a), z.2⟩, fun a => z.1 (Or.inr a)⟩
  · intro z
    exact ⟨fun a => by rcases a with a | a; exact z.1.1 a; exact z.2 a, z.1.2⟩
theorem bSum_dep {n : Int} {L : Int → Int → Prop} (hn : 0 ≤ n ∧ n ≤ 5) (hd : dif L) : ∀ (k : Nat) (u v : Int), b32 u → b32 v → (∀ y, n - k ≤ y → y < n → cntL n L u y = cntL n L v y) → bSum n L k u = bSum n L k v := by
  intro k
  induction k with
  | zero => intro u v _ _ _; rfl
  | succ k ih =>
    intro u v hu hv hc
    have hs : ∀ u v, b32 u → b32 v → (∀ y, n - ((k + 1 : Nat) : Int) ≤ y → y < n → cntL n L u y = cntL n L v y) → ∀ z1 z2, (0 ≤ z1 ∧ z1 < n) → (0 ≤ z2 ∧ z2 < n) → (¬ sbit u z1 ∧ L (n - (k + 1)) z1) → (¬ sbit v z2 ∧ L (n - (k + 1)) z2) → bSum n L k (uor u z1) = bSum n L k (uor v z2) := by
      intro u v hu hv hc z1 z2 b1 b2 h1 h2
      refine ih _ _ (uor_in hu ⟨b1.1, by omega⟩) (uor_in hv ⟨b2.1, by omega⟩) (fun y y0 y1 => ?_)
      rw [cntL_u hn hu b1 h1.1, cntL_u hn hv b2 h2.1, hc y (by omega) y1, zb_congr (hd _ z1 y z2 h1.2 h2.2)]
    rw [bSum, bSum]
    have e := fun h1 => hc (n - (k + 1)) (by omega) h1
    rcases Classical.em (cntL n L u (n - (k + 1)) = 0) with q | q
    · have q2 : ∀ w, cntL n L w (n - (k + 1)) = 0 → zsum n.toNat (fun z => zite (¬ sbit w z ∧ L (n - (k + 1)) z) (bSum n L k (uor w z)) 0) = 0 := fun w hw => by
        refine zsum_zero _ (fun i i0 i1 => ?_)
        rcases Classical.em (¬ sbit w i ∧ L (n - (k + 1)) i) with z | z
        · exfalso
          have h1 := zb_mono (P := fun z => ¬ sbit w z ∧ L (n - (k + 1)) z) (i := i) (j := i + 1) i0 (by omega) z
          have h2 := zsum_nn (f := fun z => zb (¬ sbit w z ∧ L (n - (k + 1)) z)) i.toNat (fun _ _ _ => zb_01.1)
          rcases (show i + 1 = n ∨ i + 1 < n by omega) with c | c
          · unfold cntL at hw
            rw [c] at h1
            omega
          · have h3 := zsum_cat (f := fun z => zb (¬ sbit w z ∧ L (n - (k + 1)) z)) (i + 1).toNat (n - (i + 1)).toNat
            have h4 := zsum_nn (f := fun j => zb (¬ sbit w ((((i + 1).toNat : Nat) : Int) + j) ∧ L (n - (k + 1)) ((((i + 1).toNat : Nat) : Int) + j))) (n - (i + 1)).toNat (fun _ _ _ => zb_01.1)
            rw [show (i + 1).toNat + (n - (i + 1)).toNat = n.toNat by omega] at h3
            unfold cntL at hw
            omega
        · exact zite_f z
      rw [q2 u q, q2 v (by rw [← e (by omega)]; exact q)]
    · obtain ⟨z1, b0, b1, h1⟩ := zsum_nz n.toNat q
      rw [zsum_const (v := bSum n L k (uor u z1)) n.toNat (fun z z0 z2 hz => hs u u hu hu (fun _ _ _ => rfl) z z1 ⟨z0, by omega⟩ ⟨b0, by omega⟩ hz h1), zsum_const (v := bSum n L k (uor u z1)) n.toNat (fun z z0 z2 hz => (hs u v hu hv hc z1 z ⟨b0, by omega⟩ ⟨z0, by omega⟩ h1 hz).symm)]
      have := e (by omega)
      unfold cntL at this
      rw [this]
theorem bSum_s {n : Int} {L : Int → Int → Prop} (hn : 0 ≤ n ∧ n ≤ 5) (hd : dif L) {k : Nat} {u x : Int} (hu : b32 u) (hx : 0 ≤ x ∧ x < n) (h : ¬ sbit u x ∧ L (n - (k + 1)) x) : bSum n L (k + 1) u = cntL n L u (n - (k + 1)) * bSum n L k (uor u x) := by
  rw [bSum, zsum_const (v := bSum n L k (uor u x)) n.toNat (fun z z0 z1 hz => ?_)]
  · rfl
  · refine bSum_dep hn hd k _ _ (uor_in hu ⟨z0, by omega⟩) (uor_in hu ⟨hx.1, by omega⟩) (fun y y0 y1 => ?_)
    rw [cntL_u hn hu ⟨z0, by omega⟩ hz.1, cntL_u hn hu hx h.1, zb_congr (hd _ z y x hz.2 h.2)]
theorem bSum_n {n : Int} {L : Int → Int → Prop} {k : Nat} {u : Int} (h : ∀ z, 0 ≤ z → z < n → ¬ (¬ sbit u z ∧ L (n - (k + 1)) z)) : bSum n L (k + 1) u = 0 := by
  rw [bSum]
  exact zsum_zero _ (fun i i0 i1 => zite_f (h i i0 (by omega)))
theorem bSum_in {n : Int} {L : Int → Int → Prop} (hn : 0 ≤ n ∧ n ≤ 5) : ∀ (k : Nat) (u : Int), 0 ≤ bSum n L k u ∧ bSum n L k u ≤ 5 ^ k := by
  intro k
  induction k with
  | zero => intro u; exact ⟨by show (0 : Int) ≤ 1; decide, by show (1 : Int) ≤ 5 ^ 0; decide⟩
  | succ k ih =>
    intro u
    have hp : (0 : Int) ≤ 5 ^ k := Int.le_of_lt (Int.pow_pos (by decide))
    have h := zsum_le (C := 5 ^ k) (f := fun z => zite (¬ sbit u z ∧ L (n - (k + 1)) z) (bSum n L k (uor u z)) 0) hp (fun z => by
      rcases Classical.em (¬ sbit u z ∧ L (n - (k + 1)) z) with q | q
      · rw [zite_t q]; exact ih _
      · rw [zite_f q]; exact ⟨Int.le_refl _, hp⟩) n.toNat
    rw [bSum]
    have h2 := Int.mul_le_mul_of_nonneg_left (show ((n.toNat : Nat) : Int) ≤ 5 by omega) hp
    rw [Int.pow_succ]
    omega
theorem bSum_congr {n : Int} {L L2 : Int → Int → Prop} : ∀ (k : Nat) (u : Int), (k : Int) ≤ n → (∀ y z, 0 ≤ y → y < n → 0 ≤ z → z < n → (L y z ↔ L2 y z)) → bSum n L k u = bSum n L2 k u := by
  intro k
  induction k with
  | zero => intro _ _ _; rfl
  | succ k ih =>
    intro u hk h
    rw [bSum, bSum]
    refine zsum_congr _ (fun i i0 i1 => ?_)
    rw [ih _ (by omega) h]
    rcases Classical.em (¬ sbit u i ∧ L (n - (k + 1)) i) with q | q
    · rw [zite_t q, zite_t ⟨q.1, (h _ _ (by omega) (by omega) i0 (by omega)).1 q.2⟩]
    · rw [zite_f q, zite_f (fun z => q ⟨z.1, (h _ _ (by omega) (by omega) i0 (by omega)).2 z.2⟩)]
/-! all orders of Ann's questions -/
noncomputable def oSum (n : Int) (F : (Int → Int) → Int) : Nat → Int → (Int → Int) → Int
  | 0, _, o => F o
  | k + 1, u, o => zsum n.toNat fun x => zite (¬ sbit u x) (oSum n F k (uor u x) (zput o (n - (k + 1)) x)) 0
noncomputable def fpN (u : Int) : Nat → Int → Int → Int
  | 0, _, _ => 0
  | k + 1, p, l => @ite Int (sbit u p) (Classical.propDecidable _) (fpN u k (p + 1) l) (if l = 0 then p else fpN u k (p + 1) (l - 1))
theorem fpN_b {u p l : Int} {k : Nat} (h : sbit u p) : fpN u (k + 1) p l = fpN u k (p + 1) l := by rw [fpN]; exact if_pos h
theorem fpN_0 {u p : Int} {k : Nat} (h : ¬ sbit u p) : fpN u (k + 1) p 0 = p := by rw [fpN, if_neg h, if_pos rfl]
theorem fpN_s {u p l : Int} {k : Nat} (h : ¬ sbit u p) (hl : l ≠ 0) : fpN u (k + 1) p l = fpN u k (p + 1) (l - 1) := by rw [fpN, if_neg h, if_neg hl]
theorem fp_sum {u : Int} (H : Int → Int) : ∀ (k : Nat) (p : Int), zsum (zsum k (fun i => zb (¬ sbit u (p + i)))).toNat (fun c => H (fpN u k p c)) = zsum k (fun i => zite (¬ sbit u (p + i)) (H (p + i)) 0) := by
  intro k
  induction k with
  | zero => intro p; rfl
  | succ k ih =>
    intro p
    have i := ih (p + 1)
    have hn := zsum_nn (f := fun i => zb (¬ sbit u (p + 1 + i))) k (fun _ _ _ => zb_01.1)
    have e : ∀ (T : Int → Int), (fun i : Int => T (p + (i + 1))) = fun i => T (p + 1 + i) := fun T => by funext i; congr 1; omega
    rw [zsum_head, zsum_head, e (fun z => zb (¬ sbit u z)), e (fun z => zite (¬ sbit u z) (H z) 0), ← i]
    rcases Classical.em (sbit u p) with q | q
    · rw [zb_f (by rw [Int.add_zero]; exact fun h => h q), zite_f (by rw [Int.add_zero]; exact fun h => h q), Int.zero_add, Int.zero_add]
      exact zsum_congr _ (fun c _ _ => by rw [fpN_b q])
    · rw [zb_t (by rw [Int.add_zero]; exact q), zite_t (by rw [Int.add_zero]; exact q)]
      rw [show (1 + zsum k (fun i => zb (¬ sbit u (p + 1 + i)))).toNat = (zsum k (fun i => zb (¬ sbit u (p + 1 + i)))).toNat + 1 by omega, zsum_head, fpN_0 q, Int.add_zero]
      congr 1
      exact zsum_congr _ (fun c c0 _ => by rw [fpN_s q (by omega), show c + 1 - 1 = c by omega])
theorem fpN_in {u : Int} : ∀ (k : Nat) (p c : Int), 0 ≤ c → c < zsum k (fun i => zb (¬ sbit u (p + i))) → (p ≤ fpN u k p c ∧ fpN u k p c < p + k) ∧ ¬ sbit u (fpN u k p c) := by
  intro k
  induction k with
  | zero => intro p c h0 h1; simp only [zsum] at h1; omega
  | succ k ih =>
    intro p c h0 h1
    have e : (fun i : Int => zb (¬ sbit u (p + (i + 1)))) = fun i => zb (¬ sbit u (p + 1 + i)) := by funext i; rw [show p + (i + 1) = p + 1 + i by omega]
    rw [zsum_head, e] at h1
    rcases Classical.em (sbit u p) with q | q
    · rw [zb_f (by rw [Int.add_zero]; exact fun h => h q)] at h1
      rw [fpN_b q]
      have := ih (p + 1) c h0 (by omega)
      exact ⟨by omega, this.2⟩
    · rw [zb_t (by rw [Int.add_zero]; exact q)] at h1
      by_cases hc : c = 0
      · subst hc
        rw [fpN_0 q]
        exact ⟨by omega, q⟩
      · rw [fpN_s q hc]
        have := ih (p + 1) (c - 1) (by omega) (by omega)
        exact ⟨by omega, this.2⟩
noncomputable def pmN (n : Int) : Nat → Int → Int → (Int → Int) → (Int → Int)
  | 0, _, _, o => o
  | k + 1, u, l, o => pmN n k (uor u (fpN u n.toNat 0 (l % (k + 1)))) (l / (k + 1)) (zput o (n - (k + 1)) (fpN u n.toNat 0 (l % (k + 1))))
def zfac : Nat → Nat
  | 0 => 1
  | k + 1 => zfac k * (k + 1)
theorem zfac_in : ∀ n : Nat, n ≤ 5 → 1 ≤ zfac n ∧ zfac n ≤ 120 := by
  intro n h
  have : n = 0 ∨ n = 1 ∨ n = 2 ∨ n = 3 ∨ n = 4 ∨ n = 5 := by omega
  rcases this with e | e | e | e | e | e <;> subst e <;> decide
noncomputable def nfr (n u : Int) : Int := zsum n.toNat fun i => zb (¬ sbit u i)
theorem nfr_u {n u x : Int} (hn : 0 ≤ n ∧ n ≤ 5) (hu : b32 u) (hx : 0 ≤ x ∧ x < n) (hf : ¬ sbit u x) : nfr n (uor u x) = nfr n u - 1 := by
  have h := (zsum_less (P := fun z => ¬ sbit u z) (x := x) n.toNat hx.1).1 (by omega)
  rw [zb_t hf] at h
  unfold nfr
  rw [← h]
  refine zsum_congr _ (fun i i0 i1 => zb_congr ?_)
  rw [uor_b hu ⟨hx.1, by omega⟩ ⟨i0, by omega⟩]
  exact ⟨fun z => ⟨fun a => z (Or.inl a), fun a => z (Or.inr a)⟩, fun z a => by rcases a with a | a; exact z.1 a; exact z.2 a⟩
theorem nfr_0 {n : Int} (hn : 0 ≤ n ∧ n ≤ 5) : nfr n 0 = n := by
  unfold nfr
  rw [zsum_congr (g := fun _ => 1) _ (fun i i0 i1 => zb_t (sbit_0 ⟨i0, by omega⟩))]
  have : ∀ k : Nat, zsum k (fun _ => 1) = k := by
    intro k
    induction k with
    | zero => rfl
    | succ k ih => rw [zsum, ih]; omega
  rw [this]
  omega
theorem oSum_eq {n : Int} {F : (Int → Int) → Int} (hn : 0 ≤ n ∧ n ≤ 5) : ∀ (k : Nat) (u : Int) (o : Int → Int), b32 u → nfr n u = k → zsum (zfac k) (fun c => F (pmN n k u c o)) = oSum n F k u o := by
  intro k
  induction k with
  | zero => intro u o _ _; simp [zfac, zsum, pmN, oSum]
  | succ k ih =>
    intro u o hu hk
    have hfr := fun c h0 h1 => fpN_in (u := u) n.toNat 0 c h0 (by simp only [Int.zero_add]; exact h1)
    rw [zfac, zsum_lines]
    have e1 : zsum (zfac k) (fun i => zsum (k + 1) (fun j => F (pmN n (k + 1) u (i * ((k + 1 : Nat) : Int) + j) o))) = zsum (zfac k) (fun i => zsum (k + 1) (fun j => F (pmN n k (uor u (fpN u n.toNat 0 j)) i (zput o (n - (k + 1)) (fpN u n.toNat 0 j))))) := by
      refine zsum_congr _ (fun i _ _ => zsum_congr _ (fun j j0 j1 => ?_))
      rw [pmN, show ((k + 1 : Nat) : Int) = (k : Int) + 1 by omega, lin_d j0 (by omega), lin_m j0 (by omega)]
    rw [e1, zsum_swap (k + 1) (zfac k)]
    have e2 : zsum (k + 1) (fun j => zsum (zfac k) (fun i => F (pmN n k (uor u (fpN u n.toNat 0 j)) i (zput o (n - (k + 1)) (fpN u n.toNat 0 j))))) = zsum (k + 1) (fun j => (fun x => oSum n F k (uor u x) (zput o (n - (k + 1)) x)) (fpN u n.toNat 0 j)) := by
      refine zsum_congr _ (fun j j0 j1 => ?_)
      have h := hfr j j0 (by show j < nfr n u; omega)
      exact ih _ _ (uor_in hu ⟨by omega, by omega⟩) (by rw [nfr_u hn hu ⟨by omega, by omega⟩ h.2]; omega)
    rw [e2]
    have e3 := fp_sum (u := u) (fun x => oSum n F k (uor u x) (zput o (n - (k + 1)) x)) n.toNat 0
    simp only [Int.zero_add] at e3
    have e4 : (zsum n.toNat (fun i => zb (¬ sbit u i))).toNat = k + 1 := by show (nfr n u).toNat = k + 1; omega
    rw [e4] at e3
    rw [e3, oSum]
theorem pmN_congr {n : Int} : ∀ (k : Nat) (u l : Int) (o p : Int → Int), (∀ q, 0 ≤ q → q < n - k → o q = p q) → ∀ q, 0 ≤ q → q < n → pmN n k u l o q = pmN n k u l p q := by
  intro k
  induction k with
  | zero => intro u l o p h q q0 q1; exact h q q0 (by omega)
  | succ k ih =>
    intro u l o p h
    rw [pmN, pmN]
    refine ih _ _ _ _ (fun q q0 q1 => ?_)
    unfold zput
    split
    · rfl
    · exact h q q0 (by omega)
theorem pmN_in {n : Int} (hn : 0 ≤ n ∧ n ≤ 5) : ∀ (k : Nat) (u l : Int) (o : Int → Int), b32 u → nfr n u = k → (∀ q, 0 ≤ q → q < n - k → 0 ≤ o q ∧ o q < n) → ∀ q, 0 ≤ q → q < n → 0 ≤ pmN n k u l o q ∧ pmN n k u l o q < n := by
  intro k
  induction k with
  | zero => intro u l o _ _ h q q0 q1; exact h q q0 (by omega)
  | succ k ih =>
    intro u l o hu hk h
    have h1 := Int.emod_nonneg l (show (k : Int) + 1 ≠ 0 by omega)
    have h2 := Int.emod_lt_of_pos l (show (0 : Int) < (k : Int) + 1 by omega)
    have hf := fpN_in (u := u) n.toNat 0 (l % (k + 1)) h1 (by simp only [Int.zero_add]; show l % (k + 1) < nfr n u; omega)
    rw [pmN]
    refine ih _ _ _ (uor_in hu ⟨by omega, by omega⟩) (by rw [nfr_u hn hu ⟨by omega, by omega⟩ hf.2]; omega) (fun q q0 q1 => ?_)
    unfold zput
    split
    · omega
    · exact h q q0 (by omega)
/-! looks -/
def lkB (G : GR) (x y a : Int) : Nat → Int → Int
  | 0, s => s
  | n + 1, s => 2 * lkB G x y a n s + gV G x y a n
def lkA (G : GR) (x y : Int) : Nat → Int
  | 0 => gW G x y
  | n + 1 => lkB G x y n (G 3).toNat (lkA G x y n)
def lk (G : GR) (x y : Int) : Int := lkA G x y (G 2).toNat
theorem lkB_bd {G : GR} (ho : GOK G) (x y a : Int) {s C : Int} (h : 0 ≤ s ∧ s < C) : ∀ n : Nat, 0 ≤ lkB G x y a n s ∧ lkB G x y a n s < C * 2 ^ n := by
  intro n
  induction n with
  | zero => simp only [lkB, Int.pow_zero, Int.mul_one]; exact h
  | succ n ih =>
    have := ho.gV x y a n
    rw [lkB, Int.pow_succ, ← Int.mul_assoc]
    omega
theorem lkA_bd {G : GR} (ho : GOK G) (x y : Int) : ∀ n : Nat, n ≤ 4 → 0 ≤ lkA G x y n ∧ lkA G x y n < 10 * 16 ^ n := by
  intro n
  induction n with
  | zero => intro _; have := ho.gW x y; simp only [lkA, Int.pow_zero, Int.mul_one]; omega
  | succ n ih =>
    intro h
    have h1 := lkB_bd ho x y n (ih (by omega)) (G 3).toNat
    have h0 := ho.1
    have h2 : (2 : Int) ^ (G 3).toNat ≤ 16 := by
      have : (G 3).toNat = 0 ∨ (G 3).toNat = 1 ∨ (G 3).toNat = 2 ∨ (G 3).toNat = 3 ∨ (G 3).toNat = 4 := by omega
      rcases this with e | e | e | e | e <;> rw [e] <;> decide
    have h3 := Int.mul_le_mul_of_nonneg_left h2 (show (0 : Int) ≤ 10 * 16 ^ n from Int.mul_nonneg (by decide) (Int.le_of_lt (Int.pow_pos (by decide))))
    rw [lkA, Int.pow_succ, ← Int.mul_assoc]
    omega
theorem lk_bd {G : GR} (ho : GOK G) (x y a : Int) {n b : Nat} (hn : n ≤ 3) (hb : b ≤ 4) : 0 ≤ lkB G x y a b (lkA G x y n) ∧ lkB G x y a b (lkA G x y n) < 655360 := by
  have h1 := lkB_bd ho x y a (lkA_bd ho x y n (by omega)) b
  have e1 : n = 0 ∨ n = 1 ∨ n = 2 ∨ n = 3 := by omega
  have e2 : b = 0 ∨ b = 1 ∨ b = 2 ∨ b = 3 ∨ b = 4 := by omega
  rcases e1 with e | e | e | e <;> subst e <;> rcases e2 with e | e | e | e | e <;> subst e <;> (refine ⟨h1.1, Int.lt_of_lt_of_le h1.2 (by decide)⟩)
theorem lkB_eq {G : GR} (ho : GOK G) {x y u v a s t : Int} : ∀ n : Nat, (lkB G x y a n s = lkB G u v a n t ↔ s = t ∧ ∀ b : Int, 0 ≤ b → b < n → gV G x y a b = gV G u v a b) := by
  intro n
  induction n with
  | zero => simp only [lkB]; exact ⟨fun h => ⟨h, fun b h0 h1 => by omega⟩, fun h => h.1⟩
  | succ n ih =>
    have h1 := ho.gV x y a n
    have h2 := ho.gV u v a n
    rw [lkB, lkB]
    constructor
    · intro h
      have e1 : lkB G x y a n s = lkB G u v a n t := by omega
      have e2 := ih.1 e1
      refine ⟨e2.1, fun b b0 b1 => ?_⟩
      rcases (show b < n ∨ b = n by omega) with q | q
      · exact e2.2 b b0 q
      · rw [q]; omega
    · intro h
      rw [ih.2 ⟨h.1, fun b b0 b1 => h.2 b b0 (by omega)⟩, h.2 n (by omega) (by omega)]
theorem lkA_eq {G : GR} (ho : GOK G) {x y u v : Int} : ∀ n : Nat, (lkA G x y n = lkA G u v n ↔ gW G x y = gW G u v ∧ ∀ a b : Int, 0 ≤ a → a < n → 0 ≤ b → b < G 3 → gV G x y a b = gV G u v a b) := by
  have h0 := ho.1
  intro n
  induction n with
  | zero => simp only [lkA]; exact ⟨fun h => ⟨h, fun a b a0 a1 => by omega⟩, fun h => h.1⟩
  | succ n ih =>
    rw [lkA, lkA, lkB_eq ho, ih]
    constructor
    · intro h
      refine ⟨h.1.1, fun a b a0 a1 b0 b1 => ?_⟩
      rcases (show a < n ∨ a = n by omega) with q | q
      · exact h.1.2 a b a0 q b0 b1
      · rw [q]; exact h.2 b b0 (by omega)
    · intro h
      exact ⟨⟨h.1, fun a b a0 a1 => h.2 a b a0 (by omega)⟩, fun b b0 b1 => h.2 n b (by omega) (by omega) b0 (by omega)⟩
/-- how questions look alike, Ann's being told otherwise -/
def lkL (G : GR) (o : Int → Int) (y z : Int) : Prop := ∀ x, 0 ≤ x → x < G 0 → lk G x y = lk G (o x) z
theorem lkL_dif (G : GR) (o : Int → Int) : dif (lkL G o) := fun y z y2 z2 h k => ⟨fun e x x0 x1 => by rw [e x x0 x1, ← h x x0 x1, k x x0 x1], fun e x x0 x1 => by rw [e x x0 x1, ← k x x0 x1, h x x0 x1]⟩
noncomputable def benN (G : GR) (o : Int → Int) : Int := bSum (G 1) (lkL G o) (G 1).toNat 0
noncomputable def symN (G : GR) : Int := oSum (G 0) (benN G) (G 0).toNat 0 (fun _ => 0)
