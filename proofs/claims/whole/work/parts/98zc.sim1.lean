/-! BOTH SIDES, first: what is told of an answer tells the answer -/
theorem zcs_q {P A B C D Q : Prop} (h : zcs P A B) (k : zcs P C D) (f : P → A → C → Q) (g : ¬ P → B → D → Q) : Q := by
  rcases Classical.em P with p | p
  · exact f p (h.1 p) (k.1 p)
  · exact g p (h.2 p) (k.2 p)
theorem eq_q {a b c : Int} (h : a = c) (k : b = c) : a = b := h.trans k.symm
theorem zsum_up {f : Int → Int} (h : ∀ i, 0 ≤ f i) {a b : Int} (hab : a ≤ b) : zsum a.toNat f ≤ zsum b.toNat f := by
  have e := zsum_cat (f := f) a.toNat (b.toNat - a.toNat)
  rw [show a.toNat + (b.toNat - a.toNat) = b.toNat by omega] at e
  have z := zsum_nn (f := fun i => f (a.toNat + i)) (b.toNat - a.toNat) (fun i _ _ => h _)
  omega
theorem isFst_eq {N : Int} {P : Int → Prop} {c e : Int} (h : isFst N P c) (k : isFst N P e) : c = e := by
  obtain ⟨h1, h2, h3⟩ := h
  obtain ⟨k1_q, k2_q, k3_q⟩ := k
  rcases (show c < e ∨ c = e ∨ e < c by omega) with q | q | q
  · rcases h3 with z | z
    · exact absurd z (k2_q c h1.1 q)
    · omega
  · exact q
  · rcases k3_q with z | z
    · exact absurd z (h2 e k1_q.1 q)
    · omega
theorem isKth_eq {nq na ng nr : Int} {f : Int → Int → Int → Int} {u k p N x y : Int} (hr : 1 ≤ nr ∧ nr ≤ 4) (hg : 0 ≤ ng ∧ ng ≤ 5) (h : isKth nq na ng nr f u k p N x) (z : isKth nq na ng nr f u k p N y) : x = y := by
  have nn : ∀ i, 0 ≤ tT nq na ng nr f u i := fun i => (tT_in (nq := nq) (na := na) (f := f) (u := u) hr hg i).1
  have st : ∀ c : Int, 0 ≤ c → zsum (c + 1).toNat (tT nq na ng nr f u) = zsum c.toNat (tT nq na ng nr f u) + tT nq na ng nr f u c := fun c c0_q => zsum_1 c0_q _
  rcases h with ⟨c, c1_q, c2_q, c3_q, c4_q, c5_q⟩ | ⟨c1_q, c2_q⟩
  · rcases z with ⟨e, e1_q, e2_q, e3_q, e4_q, e5_q⟩ | ⟨e1_q, e2_q⟩
    · have hce : c = e := by
        rcases (show c < e ∨ c = e ∨ e < c by omega) with q | q | q
        · have w := zsum_up nn (a := c + 1) (b := e) (by omega)
          rw [st c c1_q.1] at w
          omega
        · exact q
        · have w := zsum_up nn (a := e + 1) (b := c) (by omega)
          rw [st e e1_q.1] at w
          omega
      subst hce
      rcases Classical.em (p = 0) with q | q
      · rw [c4_q q, e4_q q]
      · obtain ⟨s1_q, a1_q, a2⟩ := c5_q q
        obtain ⟨s2_q, b1, b2⟩ := e5_q q
        rw [a2, b2]
        exact zhn_congr _ (fun g g0 g1 => isTA_eq (a1_q g g0 (by omega)) (b1 g g0 (by omega)))
    · have w := zsum_up nn (a := c + 1) (b := N) (by omega)
      rw [st c c1_q.1] at w
      omega
  · rcases z with ⟨e, e1_q, e2_q, e3_q, e4_q, e5_q⟩ | ⟨e1_q, e2_q⟩
    · have w := zsum_up nn (a := e + 1) (b := N) (by omega)
      rw [st e e1_q.1] at w
      omega
    · rw [c2_q, e2_q]
theorem isMx_wz {G K L : GR} {Z : Int → Int → Prop} (ho : GOK K) (h : isWz G Z K) (k : isWz G Z L) {x : Int} (hx : isMx K x) : isMx L x := by
  unfold isMx at hx ⊢
  have ht := ho.2.1
  rw [h.1.1, h.1.2.1, h.1.2.2.1, h.1.2.2.2] at hx
  rw [k.1.1, k.1.2.1, k.1.2.2.1, k.1.2.2.2]
  rw [h.1.1, h.1.2.1, h.1.2.2.1, h.1.2.2.2] at ht
  have nK : nA K (1 - 0) = G 3 := by unfold nA; rw [if_neg (by decide)]; exact h.1.2.2.2
  have nL : nA L (1 - 0) = G 3 := by unfold nA; rw [if_neg (by decide)]; exact k.1.2.2.2
  have e : ∀ r, tHigh (G 0) (G 1) (G 3) (fP K 0) r = tHigh (G 0) (G 1) (G 3) (fP L 0) r := fun r => by
    unfold tHigh tHi zS_
    refine zsum_congr _ (fun g g0 g1 => zhi_congr _ (fun j j0 j1 => zsum_congr _ (fun q q0 q1_q => ?_)))
    have h3 := (ht (by omega)).2.2
    have hd_q : (g * G 3 + j) / G 3 = g := by
      rw [Int.add_comm, Int.add_mul_ediv_right _ _ (by omega), Int.ediv_eq_zero_of_lt j0 (by omega), Int.zero_add]
    unfold fP
    rw [nK, nL, hd_q]
    unfold pW pV
    rw [if_pos rfl, if_pos rfl, if_pos rfl, if_pos rfl, h.2.2, k.2.2]
    congr 1
    have w1_q := h.2.1 q g q0 (by omega) g0 (by omega)
    have w2_q := k.2.1 q g q0 (by omega) g0 (by omega)
    rcases Classical.em (Z q g) with z | z
    · rw [w1_q.1 z, w2_q.1 z]
    · rw [w1_q.2 z, w2_q.2 z]
  obtain ⟨h1, r, h2, h3⟩ := hx
  exact ⟨fun r hr => by rw [← e]; exact h1 r hr, r, h2, by rw [← e]; exact h3⟩
section
variable {G : GR} {x y : Int}
theorem pWorth_eq {w : Int} (h : pWorth G w x) (k : pWorth G w y) : x = y := zcs_q h k (fun _ a b => by
  rcases (show (w < 0 ∨ 4 < w) ∨ w = 0 ∨ w = 1 ∨ w = 2 ∨ w = 3 ∨ w = 4 by omega) with q | q | q | q | q | q
  · exact eq_q (a.1 q) (b.1 q)
  · exact isMx_eq (a.2.1 q) (b.2.1 q)
  · exact eq_q (a.2.2.1 q) (b.2.2.1 q)
  · exact eq_q (a.2.2.2.1 q) (b.2.2.2.1 q)
  · exact eq_q (a.2.2.2.2.1 q) (b.2.2.2.2.1 q)
  · exact eq_q (a.2.2.2.2.2 q) (b.2.2.2.2.2 q)) (fun _ => eq_q)
theorem pSure_eq {p : Int} (h : pSure G p x) (k : pSure G p y) : x = y := zcs_q h k (fun _ a b => zcs_q a b (fun _ a b => by
  obtain ⟨c, c1_q, c2_q⟩ := a
  obtain ⟨e, e1_q, e2_q⟩ := b
  rw [c2_q, e2_q, isFst_eq c1_q e1_q]) (fun _ => eq_q)) (fun _ => eq_q)
theorem pBests_eq (h : pBests G x) (k : pBests G y) : x = y := zcs_q h k (fun _ a b => by
  obtain ⟨u, a1_q, a2⟩ := a
  obtain ⟨v, b1, b2⟩ := b
  rw [a2, b2, isMx_eq a1_q b1]) (fun _ => eq_q)
theorem pBest_eq {i p : Int} (ho : GOK G) (h : pBest G i p x) (k : pBest G i p y) : x = y := zcs_q h k (fun t a b => zcs_q a b (fun _ a b => zcs_q a b (fun _ a b => by
  obtain ⟨u, a1_q, a2⟩ := a
  obtain ⟨v, b1, b2⟩ := b
  have e := isMx_eq a1_q b1
  subst e
  have h0 := ho.1
  have ht := ho.2.1 t
  exact isKth_eq ⟨by omega, by omega⟩ ⟨by omega, by omega⟩ a2 b2) (fun _ => eq_q)) (fun _ => eq_q)) (fun _ => eq_q)
theorem pLost_eq {i j : Int} (h : pLost G i j x) (k : pLost G i j y) : x = y := zcs_q h k (fun _ a b => by
  obtain ⟨u, a1_q, a2⟩ := a
  obtain ⟨v, b1, b2⟩ := b
  rw [a2, b2, isMx_eq a1_q b1]) (fun _ => eq_q)
theorem pWithout_eq {p q : Int} (h : pWithout G p q x) (k : pWithout G p q y) : x = y := zcs_q h k (fun _ a b => by
  obtain ⟨K, a1_q, a2, a3⟩ := a
  obtain ⟨L, b1, b2, b3⟩ := b
  exact isMx_eq (isMx_wz a1_q a2 b2 a3) b3) (fun _ => eq_q)
theorem pCut_eq {i j : Int} (h : pCut G i j x) (k : pCut G i j y) : x = y := zcs_q h k (fun _ a b => by
  obtain ⟨K, a1_q, a2, a3⟩ := a
  obtain ⟨L, b1, b2, b3⟩ := b
  exact isMx_eq (isMx_wz a1_q a2 b2 a3) b3) (fun _ => eq_q)
theorem pClimb_eq {a b w : Int} (h : pClimb G a b w x) (k : pClimb G a b w y) : x = y := zcs_q h k (fun _ a b => zcs_q a b (fun _ => eq_q) (fun _ a b => zcs_q a b (fun _ a b => by
  obtain ⟨r, s, t, a1_q, a2, a3, a4, a5⟩ := a
  obtain ⟨r', s', t', b1, b2, b3, b4, b5⟩ := b
  obtain ⟨e1_q, e2_q, e3_q⟩ := isCl_eq a1_q b1
  subst e1_q e2_q e3_q
  rcases (show w = 0 ∨ w = 1 ∨ w = 2 ∨ w = 3 by omega) with q | q | q | q
  · exact eq_q (a2 q) (b2 q)
  · exact eq_q (a3 q) (b3 q)
  · exact eq_q (a4 q) (b4 q)
  · exact eq_q (a5 q) (b5 q)) (fun _ => eq_q))) (fun _ => eq_q)
theorem nPts_eq {M N : Int → Int} (h : isLab G M) (k : isLab G N) : nPts G M = nPts G N := by
  unfold nPts
  rw [zsum_congr (f := fun x => zb (M x = x)) (g := fun x => zb (N x = x)) _ (fun i i0_q i1_q => by rw [isLab_eq h k (u := i) (Or.inl ⟨i0_q, by omega⟩)]), zsum_congr (f := fun y => zb (M (5 + y) = 5 + y)) (g := fun y => zb (N (5 + y) = 5 + y)) _ (fun i i0_q i1_q => by rw [isLab_eq h k (u := 5 + i) (Or.inr ⟨by omega, by omega⟩)])]
theorem szP_eq {M N : Int → Int} (h : isLab G M) (k : isLab G N) (j : Int) : szP G M j = szP G N j := by
  unfold szP
  rw [zsum_congr (f := fun x => zb (M x = j)) (g := fun x => zb (N x = j)) _ (fun i i0_q i1_q => by rw [isLab_eq h k (u := i) (Or.inl ⟨i0_q, by omega⟩)]), zsum_congr (f := fun y => zb (M (5 + y) = j)) (g := fun y => zb (N (5 + y) = j)) _ (fun i i0_q i1_q => by rw [isLab_eq h k (u := 5 + i) (Or.inr ⟨by omega, by omega⟩)])]
theorem pParts_eq {w : Int} (h : pParts G w x) (k : pParts G w y) : x = y := zcs_q h k (fun _ a b => by
  rcases (show (w < 0 ∨ 2 < w) ∨ w = 0 ∨ w = 1 ∨ w = 2 by omega) with q | q | q | q
  · exact eq_q (a.1 q) (b.1 q)
  · obtain ⟨M, a1_q, a2⟩ := a.2.1 q
    obtain ⟨N, b1, b2⟩ := b.2.1 q
    rw [a2, b2, nPts_eq a1_q b1]
  · obtain ⟨M, a1_q, a2⟩ := a.2.2.1 q
    obtain ⟨N, b1, b2⟩ := b.2.2.1 q
    refine isGr_eq a2 ⟨fun k => by rw [szP_eq a1_q b1]; exact b2.1 k, ?_⟩
    obtain ⟨e, b3⟩ := b2.2
    exact ⟨e, by rw [szP_eq a1_q b1]; exact b3⟩
  · obtain ⟨u, a1_q, a2⟩ := a.2.2.2 q
    obtain ⟨v, b1, b2⟩ := b.2.2.2 q
    rw [a2, b2, isMx_eq a1_q b1]) (fun _ => eq_q)
theorem pBias_eq {w : Int} (h : pBias G w x) (k : pBias G w y) : x = y := zcs_q h k (fun _ a b => zcs_q a b (fun _ => eq_q) (fun _ a b => zcs_q a b (fun _ a b => zcs_q a b (fun _ a b => by
  rcases (show w = 0 ∨ w = 1 ∨ w = 2 by omega) with q | q | q
  · obtain ⟨u, a1_q, a2⟩ := a.1 q
    obtain ⟨v, b1, b2⟩ := b.1 q
    rw [a2, b2, isMx_eq a1_q b1]
  · exact eq_q (a.2.1 q) (b.2.1 q)
  · exact eq_q (a.2.2 q) (b.2.2 q)) (fun _ => eq_q)) (fun _ => eq_q))) (fun _ => eq_q)
theorem pTwice_eq {w : Int} (h : pTwice G w x) (k : pTwice G w y) : x = y := zcs_q h k (fun _ a b => zcs_q a b (fun _ => eq_q) (fun _ a b => zcs_q a b (fun _ a b => zcs_q a b (fun _ => isMost_eq) (fun _ => eq_q)) (fun _ => eq_q))) (fun _ => eq_q)
theorem pProd_eq (h : pProd G x) (k : pProd G y) : x = y := zcs_q h k (fun _ a b => zcs_q a b (fun _ a b => zcs_q a b (fun _ => isMost_eq) (fun _ => eq_q)) (fun _ => eq_q)) (fun _ => eq_q)
theorem pBoxed_eq {w : Int} (h : pBoxed G w x) (k : pBoxed G w y) : x = y := zcs_q h k (fun _ a b => by
  rcases (show (w < 0 ∨ 3 < w) ∨ w = 0 ∨ w = 1 ∨ w = 2 ∨ w = 3 by omega) with q | q | q | q | q
  · exact eq_q (a.1 q) (b.1 q)
  · exact eq_q (a.2.1 q) (b.2.1 q)
  · exact eq_q (a.2.2.1 q) (b.2.2.1 q)
  · exact eq_q (a.2.2.2.1 q) (b.2.2.2.1 q)
  · obtain ⟨u, a1_q, a2⟩ := a.2.2.2.2 q
    obtain ⟨v, b1, b2⟩ := b.2.2.2.2 q
    rw [a2, b2, isMx_eq a1_q b1]) (fun _ => eq_q)
theorem pLetter_eq {i : Int} (h : pLetter G i x) (k : pLetter G i y) : x = y := zcs_q h k (fun _ a b => zcs_q a b (fun _ => eq_q) (fun _ a b => zcs_q a b (fun _ => eq_q) (fun _ => eq_q))) (fun _ => eq_q)
end
theorem pCount_eq {st : ST} {w x y : Int} (h : pCount st w x) (k : pCount st w y) : x = y := by
  obtain ⟨a, a0_q, a1_q, a2, a3, a4, a5, a6, a7⟩ := h
  obtain ⟨b, b0, b1, b2, b3, b4, b5, b6, b7⟩ := k
  rcases (show (w < 0 ∨ 7 < w) ∨ w = 0 ∨ w = 1 ∨ w = 2 ∨ w = 3 ∨ w = 4 ∨ w = 5 ∨ w = 6 ∨ w = 7 by omega) with q | q | q | q | q | q | q | q | q
  · exact eq_q (a q) (b q)
  · exact eq_q (a0_q q) (b0 q)
  · exact eq_q (a1_q q) (b1 q)
  · exact eq_q (a2 q) (b2 q)
  · exact eq_q (a3 q) (b3 q)
  · exact eq_q (a4 q) (b4 q)
  · exact eq_q (a5 q) (b5 q)
  · exact eq_q (a6 q) (b6 q)
  · exact eq_q (a7 q) (b7 q)
theorem rTell_eq {st s1_q s2_q : ST} {x y : Int} (h : rTell st x s1_q) (k : rTell st y s2_q) : x = y ∧ s1_q = s2_q := by
  obtain ⟨f, K, a1_q, a2, a3⟩ := h
  obtain ⟨g, L, b1, b2, b3⟩ := k
  obtain ⟨e1_q, e2_q⟩ := isTl_eq a1_q b1
  subst e1_q
  rcases Classical.em (f = 0) with q | q
  · have e := e2_q q
    subst e
    exact ⟨eq_q (a2 q).1 (b2 q).1, (a2 q).2.trans (b2 q).2.symm⟩
  · exact ⟨eq_q (a3 q).1 (b3 q).1, (a3 q).2.trans (b3 q).2.symm⟩
