/-! THE CLASS: its methods, fifth: one bit told; a game twice; a game with itself -/
theorem isMA_eq {nq na ng nr u x y : Int} {f : Int → Int → Int → Int} (h : isMA nq na ng nr f u x) (k : isMA nq na ng nr f u y) : x = y := by
  obtain ⟨h1, h2, h3⟩ := h
  obtain ⟨k1, k2, k3⟩ := k
  have a : x ≤ y := by
    rcases h3 with q | ⟨r, r1, r2⟩
    · omega
    · have := k2 r r1; omega
  have b : y ≤ x := by
    rcases k3 with q | ⟨r, r1, r2⟩
    · omega
    · have := h2 r r1; omega
  omega
theorem tkV_M {G : GR} (ha : 0 < G 2) (S : Int) (h0 : 0 ≤ cnt S (G 0)) : tkM G S (tkV G S) := by
  unfold tkM tkV
  generalize hN : (G 2 ^ (cnt S (G 0)).toNat - 1).toNat = N
  have hp : (0 : Int) < G 2 ^ (cnt S (G 0)).toNat := Int.pow_pos ha
  refine ⟨zmax_l _ _, fun r hr => ?_, ?_⟩
  · obtain ⟨c, c0, c1, c2⟩ := erow_all ha hr
    rw [← tHigh_congr c2]
    exact Int.le_trans (zhi_le (h := fun c => tHigh (cnt S (G 0)) (G 1) (G 3) (fS G 0 S (G 0)) (erow (cnt S (G 0)) (G 2) c)) N c c0 (by omega)) (zmax_r _ _)
  · rcases zmax_c 0 (zhi N (fun c => tHigh (cnt S (G 0)) (G 1) (G 3) (fS G 0 S (G 0)) (erow (cnt S (G 0)) (G 2) c))) with e | e
    · exact Or.inl e
    · obtain ⟨j, j0, j1, j2⟩ := zhi_at (h := fun c => tHigh (cnt S (G 0)) (G 1) (G 3) (fS G 0 S (G 0)) (erow (cnt S (G 0)) (G 2) c)) N
      exact Or.inr ⟨_, erow_rw j ha, by rw [e, j2]⟩
theorem zhi_bd2 {C D : Int} {f : Int → Int} (n : Nat) (h : ∀ i : Int, 0 ≤ i → i ≤ n → C ≤ f i ∧ f i ≤ D) : C ≤ zhi n f ∧ zhi n f ≤ D := by
  obtain ⟨j, j0, j1, e⟩ := zhi_at (h := f) n
  rw [e]; exact h j j0 j1
theorem tkV_in {G : GR} (ho : GOK G) (S : Int) (h1 : cnt S (G 0) ≤ 5) : 0 ≤ tkV G S ∧ tkV G S ≤ 225 := by
  unfold tkV
  have h0 := ho.1
  have h := zhi_bd2 (C := 0) (D := 225) (f := fun c => tHigh (cnt S (G 0)) (G 1) (G 3) (fS G 0 S (G 0)) (erow (cnt S (G 0)) (G 2) c)) (G 2 ^ (cnt S (G 0)).toNat - 1).toNat (fun c _ _ => by
    have hh : ∀ g, 0 ≤ tHi (cnt S (G 0)) (G 3) (fS G 0 S (G 0)) (erow (cnt S (G 0)) (G 2) c) g ∧ tHi (cnt S (G 0)) (G 3) (fS G 0 S (G 0)) (erow (cnt S (G 0)) (G 2) c) g ≤ 45 := fun g => zhi_bd2 _ (fun j _ _ => by
      have := zsum_le (C := 9) (f := fun q => fS G 0 S (G 0) q (erow (cnt S (G 0)) (G 2) c q) (g * G 3 + j)) (by decide) (fun q => fP_in ho 0 _ _ _) (cnt S (G 0)).toNat
      unfold zS_
      omega)
    have := zsum_le (C := 45) (f := fun g => tHi (cnt S (G 0)) (G 3) (fS G 0 S (G 0)) (erow (cnt S (G 0)) (G 2) c) g) (by decide) hh (G 1).toNat
    show 0 ≤ tHigh _ _ _ _ _ ∧ _
    unfold tHigh
    omega)
  unfold zmax
  split <;> omega
theorem shl1 : ∀ q : Fin 6, zshl 1 (q.1 : Int) = (2 : Int) ^ q.1 := by decide +kernel
theorem c_Ap_talk {d : Nat} {kd : ZK} {m : ZM} {G : GR} {P : Int → GR} {s : Int} {S : Int → GR} {u : Int} {T : Int → Int} {n : Int} (hA : AI kd m G P s S u T n) {w : Int} : CtI (d + 21) M_Ap_talk [(2, 0), (0, w)] kd m (fun x m1 => x = aTalk G w ∧ AR kd m m1 G P s S u T n) := by
  have h0 := AR.rf hA
  have hok := hA.ok.1
  refine S_Ap_talk ?_
  refine ⟨hA.o, hA.g.1.1, _, c_Game_isTold hA.g, ?_⟩
  rintro _ _ ⟨rfl, rfl⟩
  refine ⟨fun c1 => ?_, fun c1 => ⟨fun c2 => ?_, fun c2 => ⟨fun c3 => ?_, fun c3 => ?_⟩⟩⟩
  · exact ⟨by rw [aTalk, zite_f (show ¬ told G from zb_eq0.1 c1)], h0⟩
  · exact ⟨by rw [aTalk, zite_t (show told G from zb_ne0.1 c1), zite_t c2], h0⟩
  · replace c1 : told G := zb_ne0.1 c1
    have hto : 0 < G 0 := c1
    have htt := hA.ok.2.1 hto
    refine ⟨hA.o, hA.g.1.1, ?_⟩
    have e2 : zshl 1 (m (m 0 8) 0) = (2 : Int) ^ (G 0).toNat := by
      rw [hA.g.2.1.1]
      obtain ⟨q, hq⟩ := fin_of (n := 6) (show 0 ≤ G 0 ∧ G 0 < (6 : Nat) by omega)
      rw [← hq, shl1]
      rfl
    rw [e2]
    have h2N : (2 : Int) ^ (G 0).toNat = 2 * ((2 : Int) ^ (G 0).toNat / 2) ∧ 2 ≤ (2 : Int) ^ (G 0).toNat ∧ (2 : Int) ^ (G 0).toNat ≤ 32 := by
      rcases (show G 0 = 1 ∨ G 0 = 2 ∨ G 0 = 3 ∨ G 0 = 4 ∨ G 0 = 5 by omega) with q | q | q | q | q <;> rw [q] <;> decide
    have hres : ∀ mo b, amS (tkf G) ((2 : Int) ^ (G 0).toNat / 2) mo b → (w ≠ 0 → 2 * b = aTalk G w) ∧ (¬ w ≠ 0 → mo = aTalk G w) := fun mo b h => by
      have h2 := h.2 (by omega)
      rw [aTalk, zite_t c1, zite_f c2, zite_t c3]
      exact ⟨fun k => by rw [if_neg k, h2.2], fun k => by rw [if_pos (by omega), h2.1]⟩
    generalize hP2 : (2 : Int) ^ (G 0).toNat = P2 at *
    have L0 := zfor3 (P2 / 2) (fun (k : Int) (mm : ZM) (mo b : Int) => Ev (d + 21) M_Ap_talk 0 0 39 [(2, 0), (0, w), (0, P2), (0, mo), (0, 2 * b), (0, 2 * k), zJ] [] kd mm (zqI kd (fun x m1 => x = aTalk G w ∧ AR kd m m1 G P s S u T n))) (fun (k : Int) (mm : ZM) (mo b : Int) => (0 ≤ k ∧ (k = 0 → b = 0)) ∧ AR kd m mm G P s S u T n ∧ amS (tkf G) k mo b) (by
      intro k mm mo b hb hI KL
      obtain ⟨⟨hk0, hkb⟩, am, hS⟩ := hI
      refine T_Ap_talk_39 ?_
      refine ⟨fun c4 => ?_, fun c4 => ?_⟩
      · rw [show k = P2 / 2 by omega] at hS
        have hr := hres mo b hS
        exact ⟨fun c5 => ⟨hr.1 c5, am⟩, fun c5 => ⟨hr.2 c5, am⟩⟩
      · refine ⟨hA.o, _, c_Ap_mostAsked am.1 hto, ?_⟩
        rintro x2 m3 ⟨i3, f3⟩
        have a3 := am.ft f3
        rw [iw_s (x := P2 - 1) (by omega) (by omega), iw_s (x := P2 - 1 - 2 * k) (by omega) (by omega)]
        refine ⟨hA.o, _, c_Ap_mostAsked a3.1 hto, ?_⟩
        rintro x5 m6 ⟨i6, f6⟩
        have a6 := a3.ft f6
        have n1 := cnt_in (S := 2 * k) (G 0) (by omega)
        have n2 := cnt_in (S := P2 - 1 - 2 * k) (G 0) (by omega)
        have v1 := isMA_eq i3 (tkV_M (by omega) (2 * k) n1.1)
        have v2 := isMA_eq i6 (tkV_M (by omega) (P2 - 1 - 2 * k) n2.1)
        have w1 := tkV_in hA.ok (2 * k) (by omega)
        have w2 := tkV_in hA.ok (P2 - 1 - 2 * k) (by omega)
        have hf : x2 + x5 = tkf G k := by rw [tkf, hP2, v1, v2]
        rw [iw_s (x := x2 + x5) (by omega) (by omega), iw_s (x := 2 * k + 2) (by omega) (by omega), show 2 * k + 2 = 2 * (k + 1) by omega, hf]
        refine ⟨fun c5 => ?_, fun c5 => ?_⟩
        · refine KL m6 mo b (by omega) ⟨⟨by omega, fun e => absurd e (by omega)⟩, a6, amS_no hk0 (by omega) c5 hS⟩
        · refine KL m6 _ k (by omega) ⟨⟨by omega, fun e => absurd e (by omega)⟩, a6, amS_yes hk0 (by omega) hS⟩)
    exact L0 0 m (-1) 0 (by omega) ⟨⟨by decide, fun _ => rfl⟩, h0, ⟨fun _ => rfl, fun e => absurd e (by decide)⟩⟩
  · exact ⟨by rw [aTalk, zite_t (show told G from zb_ne0.1 c1), zite_f c2, zite_f c3], h0⟩
/-! squares of sums -/
theorem zsum_sub {f g : Int → Int} : ∀ n : Nat, zsum n (fun i => f i - g i) = zsum n f - zsum n g := by
  intro n
  induction n with
  | zero => rfl
  | succ n ih => simp only [zsum]; omega
theorem zsum_pr {n : Int} (hn : 0 ≤ n) (F : Int → Int → Int) : zsum (n * n).toNat (fun q => F (q / n) (q % n)) = zsum n.toNat (fun x => zsum n.toNat (fun p => F x p)) := by
  have e : (n * n).toNat = n.toNat * n.toNat := by
    rw [Int.toNat_mul hn hn]
  rw [e, zsum_lines]
  refine zsum_congr _ (fun x x0 x1 => zsum_congr _ (fun p p0 p1 => ?_))
  have hc : ((n.toNat : Nat) : Int) = n := by omega
  rw [hc, lin_d p0 (by omega), lin_m p0 (by omega)]
theorem zsum_sq {n m : Int} (hn : 0 ≤ n) (hm : 0 ≤ m) (a : Int → Int → Int) : zsum (m * m).toNat (fun o => zsum (n * n).toNat (fun q => a (q / n) (o / m) * a (q % n) (o % m))) = zsum m.toNat (fun y => zsum n.toNat (fun x => a x y)) * zsum m.toNat (fun y => zsum n.toNat (fun x => a x y)) := by
  have e1 : ∀ y z, zsum (n * n).toNat (fun q => a (q / n) y * a (q % n) z) = zsum n.toNat (fun x => a x y) * zsum n.toNat (fun x => a x z) := fun y z => by
    rw [zsum_pr hn (fun x p => a x y * a p z)]
    rw [zsum_congr n.toNat (fun x _ _ => zsum_mull (a x y) n.toNat), zsum_mulr]
  rw [zsum_congr _ (fun o _ _ => e1 (o / m) (o % m)), zsum_pr hm (fun y z => zsum n.toNat (fun x => a x y) * zsum n.toNat (fun x => a x z))]
  rw [zsum_congr m.toNat (fun y _ _ => zsum_mull (zsum n.toNat (fun x => a x y)) m.toNat), zsum_mulr]
/-- best rows of both -/
theorem isMx_rows {G : GR} (ho : GOK G) (ht : 0 < G 0) {u : Int} (h : isMx G u) : ∃ r t : Int → Int, zrw (G 0) (G 2) r ∧ (∀ y, 0 ≤ t y ∧ t y < G 3) ∧ u = zsum (G 1).toNat (fun y => zsum (G 0).toNat (fun x => gW G x y * gV G x y (r x) (t y))) := by
  obtain ⟨r, h1, h2⟩ := h.2
  have htt := ho.2.1 ht
  have hex : ∀ y, ∃ b, (0 ≤ b ∧ b < G 3) ∧ tHi (G 0) (G 3) (fP G 0) r y = zS_ (fP G 0) r (G 0) (y * G 3 + b) := fun y => by
    obtain ⟨j, j0, j1, e⟩ := zhi_at (h := fun j => zS_ (fP G 0) r (G 0) (y * G 3 + j)) (G 3 - 1).toNat
    exact ⟨j, ⟨j0, by omega⟩, e⟩
  refine ⟨r, fun y => (hex y).choose, h1, fun y => (hex y).choose_spec.1, ?_⟩
  rw [← h2]
  unfold tHigh
  refine zsum_congr _ (fun y _ _ => ?_)
  rw [(hex y).choose_spec.2]
  unfold zS_
  refine zsum_congr _ (fun x _ _ => ?_)
  exact fP_at (G := G) (p := 0) (hex y).choose_spec.1
theorem isMx_sW {G : GR} (ho : GOK G) {u : Int} (h : isMx G u) : u ≤ sW G := by
  rcases (show G 0 ≤ 0 ∨ 0 < G 0 by omega) with q | q
  · obtain ⟨r, h1, h2⟩ := h.2
    have h0 := ho.1
    have := sW_in ho
    have e : tHigh (G 0) (G 1) (G 3) (fP G 0) r ≤ 0 := by
      unfold tHigh
      have : zsum (G 1).toNat (fun g => tHi (G 0) (G 3) (fP G 0) r g) = 0 := zsum_zero _ (fun g _ _ => by
        unfold tHi
        obtain ⟨j, _, _, e⟩ := zhi_at (h := fun j => zS_ (fP G 0) r (G 0) (g * G 3 + j)) (G 3 - 1).toNat
        rw [e]
        unfold zS_
        rw [show (G 0).toNat = 0 by omega]
        rfl)
      omega
    omega
  · obtain ⟨r, t, hr, hs, e⟩ := isMx_rows ho q h
    rw [e]
    unfold sW
    rw [zsum_swap]
    refine zsum_mono _ (fun x _ _ => zsum_mono _ (fun y _ _ => ?_))
    have a := ho.gW x y
    have b := ho.gV x y (r x) (t y)
    have := Int.mul_le_mul (show gW G x y ≤ gW G x y by omega) b.2 b.1 a.1
    omega
theorem tHigh_ge {nq ng nr : Int} {f : Int → Int → Int → Int} {r j : Int → Int} {v : Int} (hj : ∀ g, 0 ≤ g → g < ng → 0 ≤ j g ∧ j g < nr) (e : zsum ng.toNat (fun g => zsum nq.toNat (fun q => f q (r q) (g * nr + j g))) = v) : v ≤ tHigh nq ng nr f r := by
  rw [← e]
  unfold tHigh
  refine zsum_mono _ (fun g g0 g1 => ?_)
  have hh := hj g g0 (by omega)
  exact zhi_le (h := fun j => zS_ f r nq (g * nr + j)) (nr - 1).toNat (j g) hh.1 (by omega)
theorem cmb0 {u v : Int} (hu : 0 ≤ u ∧ u ≤ 1) (hv : 0 ≤ v ∧ v ≤ 1) : cmb 0 u v = u * v ∧ cmb 1 u v = 1 - (1 - u) * (1 - v) := by
  unfold cmb
  rcases (show u = 0 ∨ u = 1 by omega) with a | a <;> rcases (show v = 0 ∨ v = 1 by omega) with b | b <;> subst a <;> subst b <;> simp only [if_pos, if_neg, show ¬ (1 : Int) = 0 by decide] <;> refine ⟨?_, ?_⟩ <;> first | exact zb_t (by decide) | exact zb_f (by decide)
theorem tw_row {G : GR} (ho : GOK G) (ht : 0 < G 0) {u : Int} (h : isMx G u) : ∃ r, zrw (G 0 * G 0) (G 2 * G 2) r ∧ u * u ≤ tHigh (G 0 * G 0) (G 1 * G 1) (G 3 * G 3) (fTn G 0 (G 3 * G 3)) r ∧ sW G * sW G - (sW G - u) * (sW G - u) ≤ tHigh (G 0 * G 0) (G 1 * G 1) (G 3 * G 3) (fTn G 1 (G 3 * G 3)) r := by
  obtain ⟨r, t, hr, hs, e⟩ := isMx_rows ho ht h
  have htt := ho.2.1 ht
  have h0 := ho.1
  have hnn : ∀ q, 0 ≤ q → q < G 0 * G 0 → (0 ≤ q / G 0 ∧ q / G 0 < G 0) ∧ 0 ≤ q % G 0 ∧ q % G 0 < G 0 := fun q q0 q1 => dm2 q0 q1 ht
  have hj : ∀ g, 0 ≤ g → g < G 1 * G 1 → 0 ≤ t (g / G 1) * G 3 + t (g % G 1) ∧ t (g / G 1) * G 3 + t (g % G 1) < G 3 * G 3 := fun g _ _ => by
    have a := hs (g / G 1)
    have b := hs (g % G 1)
    have := mulL a.2 (show 0 ≤ G 3 by omega)
    have := mulN a.1 (show 0 ≤ G 3 by omega)
    omega
  have key : ∀ c q o, 0 ≤ q → q < G 0 * G 0 → 0 ≤ o → o < G 1 * G 1 → fTn G c (G 3 * G 3) q (r (q / G 0) * G 2 + r (q % G 0)) (o * (G 3 * G 3) + (t (o / G 1) * G 3 + t (o % G 1))) = gW G (q / G 0) (o / G 1) * gW G (q % G 0) (o % G 1) * cmb c (gV G (q / G 0) (o / G 1) (r (q / G 0)) (t (o / G 1))) (gV G (q % G 0) (o % G 1) (r (q % G 0)) (t (o % G 1))) := fun c q o q0 q1 o0 o1 => by
    have hq := hnn q q0 q1
    have a := hr _ hq.1.1 hq.1.2
    have b := hr _ hq.2.1 hq.2.2
    rw [fTn_at (hj o o0 o1), lin_d b.1 b.2, lin_m b.1 b.2, lin_d (hs _).1 (hs _).2, lin_m (hs _).1 (hs _).2]
  refine ⟨fun q => r (q / G 0) * G 2 + r (q % G 0), fun q q0 q1 => ?_, ?_, ?_⟩
  · have hq := hnn q q0 q1
    have a := hr _ hq.1.1 hq.1.2
    have b := hr _ hq.2.1 hq.2.2
    have := mulL a.2 (show 0 ≤ G 2 by omega)
    have := mulN a.1 (show 0 ≤ G 2 by omega)
    show 0 ≤ r (q / G 0) * G 2 + r (q % G 0) ∧ r (q / G 0) * G 2 + r (q % G 0) < G 2 * G 2
    omega
  · refine tHigh_ge hj ?_
    rw [e, ← zsum_sq (n := G 0) (m := G 1) (by omega) (by omega) (fun x y => gW G x y * gV G x y (r x) (t y))]
    refine zsum_congr _ (fun o o0 o1 => zsum_congr _ (fun q q0 q1 => ?_))
    rw [key 0 q o q0 (by omega) o0 (by omega), (cmb0 (ho.gV _ _ _ _) (ho.gV _ _ _ _)).1]
    simp only [Int.mul_assoc, Int.mul_left_comm]
  · refine tHigh_ge hj ?_
    have e1 : sW G = zsum (G 1).toNat (fun y => zsum (G 0).toNat (fun x => gW G x y)) := by
      unfold sW
      rw [zsum_swap]
    have e2 : sW G - u = zsum (G 1).toNat (fun y => zsum (G 0).toNat (fun x => gW G x y * (1 - gV G x y (r x) (t y)))) := by
      rw [e1, e, ← zsum_sub]
      refine zsum_congr _ (fun y _ _ => ?_)
      rw [← zsum_sub]
      refine zsum_congr _ (fun x _ _ => ?_)
      rw [Int.mul_sub, Int.mul_one]
    rw [e2]
    rw [e1, ← zsum_sq (n := G 0) (m := G 1) (by omega) (by omega) (fun x y => gW G x y), ← zsum_sq (n := G 0) (m := G 1) (by omega) (by omega) (fun x y => gW G x y * (1 - gV G x y (r x) (t y))), ← zsum_sub]
    refine zsum_congr _ (fun o o0 o1 => ?_)
    rw [← zsum_sub]
    refine zsum_congr _ (fun q q0 q1 => ?_)
    rw [key 1 q o q0 (by omega) o0 (by omega), (cmb0 (ho.gV _ _ _ _) (ho.gV _ _ _ _)).2, Int.mul_sub, Int.mul_one]
    simp only [Int.mul_assoc, Int.mul_left_comm]
/-- how a sign and a pair of answers go together -/
theorem sgn_V {G : GR} (ho : GOK G) {x y a b : Int} (h2 : G 2 = 2) (h3 : G 3 = 2) (hs : 0 < gW G x y → gS G x y ≠ 0) (ha : 0 ≤ a ∧ a < 2) (hb : 0 ≤ b ∧ b < 2) : gZ G x y * ((1 - 2 * a) * (1 - 2 * b)) = 2 * (gW G x y * gV G x y a b) - gW G x y := by
  have hw := ho.gW x y
  have hv := ho.gV x y a b
  unfold gZ
  rcases Classical.em (gW G x y = 0) with q | q
  · rw [q]; omega
  · have hs := hs (by omega)
    unfold gS at hs ⊢
    rcases Classical.em (isPar G x y 0) with k | k
    · rw [zite_t k]
      have kk := k a ha.1 (by omega) b hb.1 (by omega)
      rcases (show a = 0 ∨ a = 1 by omega) with e | e <;> rcases (show b = 0 ∨ b = 1 by omega) with f | f <;> subst e <;> subst f
      · have : gV G x y 0 0 = 1 := kk.2 (by decide)
        rw [this]; omega
      · have : gV G x y 0 1 = 0 := by
          exact Classical.byContradiction fun hn => absurd (kk.1 (by omega)) (by decide)
        rw [this]; omega
      · have : gV G x y 1 0 = 0 := by
          exact Classical.byContradiction fun hn => absurd (kk.1 (by omega)) (by decide)
        rw [this]; omega
      · have : gV G x y 1 1 = 1 := kk.2 (by decide)
        rw [this]; omega
    · rw [zite_f k] at hs ⊢
      rcases Classical.em (isPar G x y 1) with k | k
      · rw [zite_t k]
        have kk := k a ha.1 (by omega) b hb.1 (by omega)
        rcases (show a = 0 ∨ a = 1 by omega) with e | e <;> rcases (show b = 0 ∨ b = 1 by omega) with f | f <;> subst e <;> subst f
        · have : gV G x y 0 0 = 0 := by
            exact Classical.byContradiction fun hn => absurd (kk.1 (by omega)) (by decide)
          rw [this]; omega
        · have : gV G x y 0 1 = 1 := kk.2 (by decide)
          rw [this]; omega
        · have : gV G x y 1 0 = 1 := kk.2 (by decide)
          rw [this]; omega
        · have : gV G x y 1 1 = 0 := by
            exact Classical.byContradiction fun hn => absurd (kk.1 (by omega)) (by decide)
          rw [this]; omega
      · exact absurd (zite_f k) hs
theorem sg2 {a b c e z : Int} (ha : 0 ≤ a ∧ a < 2) (hb : 0 ≤ b ∧ b < 2) (hc : 0 ≤ c ∧ c < 2) (he : 0 ≤ e ∧ e < 2) : ((((if a = b then (0 : Int) else 1) = 0) ↔ (if c = e then (0 : Int) else 1) = 0) → (1 - 2 * a) * (1 - 2 * c) * ((1 - 2 * b) * (1 - 2 * e)) = 1) ∧ (¬ (((if a = b then (0 : Int) else 1) = 0) ↔ (if c = e then (0 : Int) else 1) = 0) → (1 - 2 * a) * (1 - 2 * c) * ((1 - 2 * b) * (1 - 2 * e)) = -1) := by
  rcases (show a = 0 ∨ a = 1 by omega) with q | q <;> rcases (show b = 0 ∨ b = 1 by omega) with k | k <;> rcases (show c = 0 ∨ c = 1 by omega) with v | v <;> rcases (show e = 0 ∨ e = 1 by omega) with w | w <;> subst q <;> subst k <;> subst v <;> subst w <;> decide
theorem it_row {G : GR} (ho : GOK G) (ht : 0 < G 0) (hp : isPG G) {v : Int} (h : isBi G v) : ∃ r, zrw (G 0 * G 0) 2 r ∧ v * v ≤ tHigh (G 0 * G 0) (G 1 * G 1) 2 (fI G) r := by
  obtain ⟨u, hu, hv⟩ := h
  obtain ⟨r, t, hr, hs, e⟩ := isMx_rows ho ht hu
  obtain ⟨⟨h2, h3⟩, hg⟩ := hp
  have htt := ho.2.1 ht
  rw [h2] at hr
  rw [h3] at hs
  have hnn : ∀ q, 0 ≤ q → q < G 0 * G 0 → (0 ≤ q / G 0 ∧ q / G 0 < G 0) ∧ 0 ≤ q % G 0 ∧ q % G 0 < G 0 := fun q q0 q1 => dm2 q0 q1 ht
  have hmm : ∀ o, 0 ≤ o → o < G 1 * G 1 → (0 ≤ o / G 1 ∧ o / G 1 < G 1) ∧ 0 ≤ o % G 1 ∧ o % G 1 < G 1 := fun q q0 q1 => dm2 q0 q1 (by omega)
  have hj : ∀ g, 0 ≤ g → g < G 1 * G 1 → 0 ≤ (if t (g / G 1) = t (g % G 1) then (0 : Int) else 1) ∧ (if t (g / G 1) = t (g % G 1) then (0 : Int) else 1) < 2 := fun g _ _ => by split <;> decide
  refine ⟨fun q => if r (q / G 0) = r (q % G 0) then 0 else 1, fun q q0 q1 => by show 0 ≤ (if r (q / G 0) = r (q % G 0) then (0 : Int) else 1) ∧ (if r (q / G 0) = r (q % G 0) then (0 : Int) else 1) < 2; split <;> decide, ?_⟩
  refine tHigh_ge hj ?_
  have e1 : v = zsum (G 1).toNat (fun y => zsum (G 0).toNat (fun x => gZ G x y * ((1 - 2 * r x) * (1 - 2 * t y)))) := by
    have e2 : sW G = zsum (G 1).toNat (fun y => zsum (G 0).toNat (fun x => gW G x y)) := by
      unfold sW
      rw [zsum_swap]
    rw [hv, e2, e, ← zsum_mull, ← zsum_sub]
    refine zsum_congr _ (fun y y0 y1 => ?_)
    rw [← zsum_mull, ← zsum_sub]
    refine zsum_congr _ (fun x x0 x1 => ?_)
    exact (sgn_V ho h2 h3 (hg x x0 (by omega) y y0 (by omega)) (hr x x0 (by omega)) (hs y)).symm
  rw [e1, ← zsum_sq (n := G 0) (m := G 1) (by omega) (by omega) (fun x y => gZ G x y * ((1 - 2 * r x) * (1 - 2 * t y)))]
  refine zsum_congr _ (fun o o0 o1 => zsum_congr _ (fun q q0 q1 => ?_))
  have hq := hnn q q0 (by omega)
  have hoo := hmm o o0 (by omega)
  have g2 := sg2 (a := r (q / G 0)) (b := r (q % G 0)) (c := t (o / G 1)) (e := t (o % G 1)) (z := 0) (hr _ hq.1.1 hq.1.2) (hr _ hq.2.1 hq.2.2) (hs _) (hs _)
  have hjo := hj o o0 (by omega)
  have hz0 : q = 0 → (if r (q / G 0) = r (q % G 0) then (0 : Int) else 1) = 0 := fun k => by
    rw [k, Int.zero_ediv, Int.zero_emod, if_pos rfl]
  have hor : ((if r (q / G 0) = r (q % G 0) then (0 : Int) else 1) = 0 ∨ q = 0) ↔ (if r (q / G 0) = r (q % G 0) then (0 : Int) else 1) = 0 := ⟨fun k => k.elim id hz0, Or.inl⟩
  have hd : (o * 2 + (if t (o / G 1) = t (o % G 1) then (0 : Int) else 1)) / 2 = o := by omega
  have hm : (o * 2 + (if t (o / G 1) = t (o % G 1) then (0 : Int) else 1)) % 2 = (if t (o / G 1) = t (o % G 1) then (0 : Int) else 1) := by omega
  generalize hA1 : (if r (q / G 0) = r (q % G 0) then (0 : Int) else 1) = A1 at *
  generalize hB1 : (if t (o / G 1) = t (o % G 1) then (0 : Int) else 1) = B1 at *
  have e3 : ∀ z1 z2 w1 w2 : Int, z1 * w1 * (z2 * w2) = z1 * z2 * (w1 * w2) := fun z1 z2 w1 w2 => by
    simp only [Int.mul_assoc, Int.mul_left_comm]
  rw [e3]
  show fI G q A1 (o * 2 + B1) = _
  rcases Classical.em ((A1 = 0) ↔ B1 = 0) with k | k
  · rw [fI_t (by rw [hor, hm]; exact k), g2.1 k, Int.mul_one, hd]
    rfl
  · rw [fI_f (by rw [hor, hm]; exact k), g2.2 k, Int.mul_neg, Int.mul_one, hd]
    rfl
/-! the calls -/
theorem pow_mn {b c : Nat} {a : Int} (h1 : 1 ≤ a) (h : b ≤ c) : a ^ b ≤ a ^ c := by
  have e : c = b + (c - b) := by omega
  rw [e, Int.pow_add]
  have p1 : (0 : Int) < a ^ b := Int.pow_pos (by omega)
  have p2 : (0 : Int) < a ^ (c - b) := Int.pow_pos (by omega)
  have := Int.mul_le_mul_of_nonneg_left (show (1 : Int) ≤ a ^ (c - b) by omega) (show (0 : Int) ≤ a ^ b by omega)
  rw [Int.mul_one] at this
  exact this
theorem rw2_2 {G : GR} (ho : GOK G) (ht : 0 < G 0) (h : rw2 G) : G 0 ≤ 2 := by
  have htt := ho.2.1 ht
  have h0 := ho.1
  unfold rw2 at h
  refine Classical.byContradiction fun hn => ?_
  have hA : 4 ≤ G 2 * G 2 := by
    have := Int.mul_le_mul htt.2.1 htt.2.1 (by decide) (show 0 ≤ G 2 by omega)
    omega
  have hN : 9 ≤ (G 0 * G 0).toNat := by
    have := Int.mul_le_mul (show 3 ≤ G 0 by omega) (show 3 ≤ G 0 by omega) (by decide) (show 0 ≤ G 0 by omega)
    omega
  have p1 := pow_mn (a := G 2 * G 2) (by omega) hN
  have p2 : (4 : Int) ^ 9 ≤ (G 2 * G 2) ^ 9 := by
    have e : ∀ k : Nat, (4 : Int) ^ k ≤ (G 2 * G 2) ^ k := fun k => by
      induction k with
      | zero => simp
      | succ k ih =>
        rw [Int.pow_succ, Int.pow_succ]
        exact Int.mul_le_mul ih hA (by decide) (Int.le_of_lt (Int.pow_pos (by omega)))
    exact e 9
  have p3 : (4 : Int) ^ 9 = 262144 := by decide
  omega
theorem c_Ap_rowsTwice {d : Nat} {kd : ZK} {m : ZM} {G : GR} {P : Int → GR} {s : Int} {S : Int → GR} {u : Int} {T : Int → Int} {n : Int} (hA : AI kd m G P s S u T n) (hto : 0 < G 0) : CtI (d + 1) M_Ap_rowsTwice [(2, 0)] kd m (fun x m1 => (x ≤ 70000 ↔ rw2 G) ∧ m = m1) := by
  have hok := hA.ok.1
  have htt := hA.ok.2.1 hto
  have e := hA.g.2.1
  have hA1 := zmul_in (a := G 2) (b := G 2) (A := 4) (B := 4) (by omega) (by omega)
  have hN1 := zmul_in (a := G 0) (b := G 0) (A := 5) (B := 5) (by omega) (by omega)
  have hA2 : 1 ≤ G 2 * G 2 := by
    have := Int.mul_le_mul (show 1 ≤ G 2 by omega) (show 1 ≤ G 2 by omega) (by decide) (show 0 ≤ G 2 by omega)
    omega
  refine S_Ap_rowsTwice ⟨hA.o, hA.g.1.1, hA.o, hA.g.1.1, hA.o, hA.g.1.1, hA.o, hA.g.1.1, ?_⟩
  rw [e.1, e.2.2.1, iw_s (x := G 2 * G 2) (by omega) (by omega), iw_s (x := G 0 * G 0) (by omega) (by omega)]
  unfold rw2
  generalize hAA : G 2 * G 2 = A at *
  generalize hNN : G 0 * G 0 = N at *
  have L0 := zfor1 N (fun (i : Int) (v : Int) => Ev (d + 1) M_Ap_rowsTwice 0 0 37 [zJ, (0, A), (0, N), (0, v), (0, i)] [] kd m (zqI kd (fun x m1 => (x ≤ 70000 ↔ A ^ N.toNat ≤ 70000) ∧ m = m1))) (fun (i : Int) (v : Int) => 0 ≤ i ∧ v = A ^ i.toNat ∧ v ≤ 1120000) (by
    intro i v hb hI KL
    obtain ⟨hi, hv, hv2⟩ := hI
    have hp : (0 : Int) < A ^ i.toNat := Int.pow_pos (by omega)
    refine T_Ap_rowsTwice_37 ⟨fun c1 => ?_, fun c1 => ⟨fun c2 => ?_, fun c2 => ?_⟩⟩
    · rw [hv, show i = N by omega]
      exact ⟨Iff.rfl, rfl⟩
    · have := pow_mn (a := A) hA2 (show i.toNat ≤ N.toNat by omega)
      exact ⟨by omega, rfl⟩
    · have h1 := zmul_in (a := v) (b := A) (A := 70000) (B := 16) (by omega) (by omega)
      rw [iw_s (x := v * A) (by omega) (by omega), iw_s (x := i + 1) (by omega) (by omega)]
      exact KL _ (by omega) ⟨by omega, by rw [hv, show (i + 1).toNat = i.toNat + 1 by omega, Int.pow_succ], by omega⟩)
  exact L0 0 1 (by omega) ⟨by decide, by simp, by decide⟩
theorem c_Ap_twice {d : Nat} {kd : ZK} {m : ZM} {G : GR} {P : Int → GR} {s : Int} {S : Int → GR} {u : Int} {T : Int → Int} {n : Int} (hA : AI kd m G P s S u T n) {w : Int} : CtI (d + 21) M_Ap_twice [(2, 0), (0, w)] kd m (fun x m1 => pTwice G w x ∧ AR kd m m1 G P s S u T n) := by
  have h0 := AR.rf hA
  have hok := hA.ok.1
  refine S_Ap_twice ?_
  refine ⟨hA.o, hA.g.1.1, _, c_Game_isTold hA.g, ?_⟩
  rintro _ _ ⟨rfl, rfl⟩
  refine ⟨fun c1 => ?_, fun c1 => ⟨fun c2 => ?_, fun c2 => ⟨fun c3 => ?_, fun c3 => ?_⟩⟩⟩
  · exact ⟨zcs_f (zb_eq0.1 c1) rfl, h0⟩
  · exact ⟨zcs_t (zb_ne0.1 c1) (zcs_t c2 rfl), h0⟩
  · replace c1 : told G := zb_ne0.1 c1
    have hto : 0 < G 0 := c1
    refine ⟨hA.o, _, c_Ap_rowsTwice hA hto, ?_⟩
    rintro x5 m6 ⟨hx5, rfl⟩
    refine ⟨fun c4 => ?_, fun c4 => ?_⟩
    · have hr := hx5.1 c4
      have hz := hA.z
      refine ⟨hA.o, hA.o, _, c_Ap_mostOf hA.o hA.e2 hA.tb hA.g hA.ok hto (by omega), ?_⟩
      rintro x8 m9 ⟨i9, f9⟩
      have a9 := h0.ft f9
      refine ⟨hA.o, a9.1.g.1.1, _, c_Game_weightTogether a9.1.g hA.ok, ?_⟩
      rintro _ _ ⟨rfl, rfl⟩
      have k95 : ∀ c fl, (∃ r, zrw (G 0 * G 0) (G 2 * G 2) r ∧ fl ≤ tHigh (G 0 * G 0) (G 1 * G 1) (G 3 * G 3) (fTn G c (G 3 * G 3)) r) → 0 ≤ fl → c = w → Ev (d + 21) M_Ap_twice 0 0 95 [(2, 0), zJ, zJ, zJ, zJ, (0, fl)] [(0, c), (2, m9 0 8), (2, m9 0 2)] kd m9 (zqI kd (fun x m1 => pTwice G w x ∧ AR kd m m1 G P s S u T n)) := fun c fl hrow hfl hcw => by
        refine T_Ap_twice_95 ?_
        simp only [a9.1.e2]
        refine ⟨a9.1.t5, _, c_Table_loadTwice a9.1.tb a9.1.g hA.ok hto (rw2_2 hA.ok hto hr) (by have := a9.1.z; omega), ?_⟩
        rintro m3 ⟨t3, f3⟩
        have a3 := a9.ft ⟨fun c hc => f3 c (by omega) (by omega), t3.tb⟩
        simp only [a3.1.e2]
        refine ⟨hA.o, a3.1.t5, _, c_Table_mostAbove t3 hfl, ?_⟩
        rintro x m6 ⟨x5, k6, f6⟩
        obtain ⟨r, r1, r2⟩ := hrow
        refine ⟨zcs_t c1 (zcs_f c2 (zcs_t c3 (zcs_t hr ?_))), a3.ft ⟨fun c hc => f6 c (by omega) (by omega) (by omega) (by omega), ⟨_, _, _, _, _, t3.1.frame2 k6⟩⟩⟩
        rw [← hcw]
        exact x5.most r1 r2
      have k75 : ∀ fl, (∃ r, zrw (G 0 * G 0) (G 2 * G 2) r ∧ fl ≤ tHigh (G 0 * G 0) (G 1 * G 1) (G 3 * G 3) (fTn G w (G 3 * G 3)) r) → 0 ≤ fl → Ev (d + 21) M_Ap_twice 0 0 75 [(2, 0), (0, w), zJ, zJ, zJ, zJ] [(0, fl)] kd m9 (zqI kd (fun x m1 => pTwice G w x ∧ AR kd m m1 G P s S u T n)) := fun fl hrow hfl => by
        refine T_Ap_twice_75 ⟨hA.o, hA.o, fun c5 => ?_, fun c5 => ?_⟩
        · have hw : w = 0 := by omega
          exact k95 0 fl (by rw [hw] at hrow; exact hrow) hfl hw.symm
        · have hw : w = 1 := by omega
          exact k95 1 fl (by rw [hw] at hrow; exact hrow) hfl hw.symm
      obtain ⟨r, r1, r2, r3⟩ := tw_row hA.ok hto i9
      have b1 := isMx_in hA.ok i9
      have b2 := sW_in hA.ok
      have b3 := isMx_sW hA.ok i9
      have q1 := zmul_in (a := x8) (b := x8) (A := 225) (B := 225) b1 b1
      have q2 := zmul_in (a := sW G) (b := sW G) (A := 225) (B := 225) b2 b2
      have q3 := zmul_in (a := sW G - x8) (b := sW G - x8) (A := 225) (B := 225) (by omega) (by omega)
      have q4 := Int.mul_le_mul (show sW G - x8 ≤ sW G by omega) (show sW G - x8 ≤ sW G by omega) (by omega) (by omega)
      refine ⟨fun c5 => ?_, fun c5 => ?_⟩
      · have hw : w = 1 := by omega
        rw [iw_s (x := sW G * sW G) (by omega) (by omega), iw_s (x := sW G - x8) (by omega) (by omega), iw_s (x := (sW G - x8) * (sW G - x8)) (by omega) (by omega), iw_s (x := sW G * sW G - (sW G - x8) * (sW G - x8)) (by omega) (by omega)]
        exact k75 _ ⟨r, r1, by rw [hw]; exact r3⟩ (by omega)
      · have hw : w = 0 := by omega
        rw [iw_s (x := x8 * x8) (by omega) (by omega)]
        exact k75 _ ⟨r, r1, by rw [hw]; exact r2⟩ (by omega)
    · exact ⟨zcs_t c1 (zcs_f c2 (zcs_t c3 (zcs_f (fun h => c4 (hx5.2 h)) rfl))), h0⟩
  · exact ⟨zcs_t (zb_ne0.1 c1) (zcs_f c2 (zcs_f c3 rfl)), h0⟩
theorem c_Ap_product {d : Nat} {kd : ZK} {m : ZM} {G : GR} {P : Int → GR} {s : Int} {S : Int → GR} {u : Int} {T : Int → Int} {n : Int} (hA : AI kd m G P s S u T n) : CtI (d + 22) M_Ap_product [(2, 0)] kd m (fun x m1 => pProd G x ∧ AR kd m m1 G P s S u T n) := by
  have h0 := AR.rf hA
  have hok := hA.ok.1
  refine S_Ap_product ?_
  refine ⟨hA.o, hA.g.1.1, _, c_Game_isTold hA.g, ?_⟩
  rintro _ _ ⟨rfl, rfl⟩
  refine ⟨fun c1 => ?_, fun c1 => ?_⟩
  · replace c1 : told G := zb_ne0.1 c1
    have hto : 0 < G 0 := c1
    refine ⟨hA.o, hA.g.1.1, _, c_Game_isParityGame hA.g hA.ok, ?_⟩
    rintro _ _ ⟨rfl, rfl⟩
    refine ⟨fun c2 => ?_, fun c2 => ?_⟩
    · replace c2 := zb_ne0.1 c2
      rw [hA.g.2.1.1]
      refine ⟨hA.o, hA.g.1.1, fun c3 => ?_, fun c3 => ?_⟩
      · refine ⟨hA.o, _, c_Ap_mostBias hA hto, ?_⟩
        rintro x8 m9 ⟨i9, a9⟩
        simp only [a9.1.e2]
        refine ⟨hA.o, hA.o, a9.1.t5, _, c_Table_loadWithItself a9.1.tb a9.1.g hA.ok hto c3 (by have := a9.1.z; omega), ?_⟩
        rintro m12 ⟨t12, f12⟩
        have a12 := a9.ft ⟨fun c hc => f12 c (by omega) (by omega), t12.tb⟩
        simp only [a12.1.e2]
        have hb : -225 ≤ x8 ∧ x8 ≤ 450 := by
          obtain ⟨v, v1, v2⟩ := i9
          have := isMx_in hA.ok v1
          have := sW_in hA.ok
          omega
        have hq := zmul_bd (a := x8) (b := x8) (A := 450) (B := 450) (by omega) (by omega)
        have hq2 : 0 ≤ x8 * x8 := by
          rcases (show 0 ≤ x8 ∨ x8 ≤ 0 by omega) with k | k
          · exact Int.mul_nonneg k k
          · exact Int.mul_nonneg_of_nonpos_of_nonpos k k
        rw [iw_s (x := x8 * x8) (by omega) (by omega)]
        refine ⟨hA.o, a12.1.t5, _, c_Table_mostAbove t12 hq2, ?_⟩
        rintro x m15 ⟨x15, k15, f15⟩
        obtain ⟨r, r1, r2⟩ := it_row hA.ok hto c2 i9
        exact ⟨zcs_t c1 (zcs_t c2 (zcs_t c3 (x15.most r1 r2))), a12.ft ⟨fun c hc => f15 c (by omega) (by omega) (by omega) (by omega), ⟨_, _, _, _, _, t12.1.frame2 k15⟩⟩⟩
      · exact ⟨zcs_t c1 (zcs_t c2 (zcs_f c3 rfl)), h0⟩
    · exact ⟨zcs_t c1 (zcs_f (zb_eq0.1 (Classical.not_not.1 c2)) rfl), h0⟩
  · exact ⟨zcs_f (zb_eq0.1 (Classical.not_not.1 c1)) rfl, h0⟩
