/-! TAPE, third: the whole text; feeding -/
theorem pSp_in {T : Int → Int} {n k x y : Int} {G : GR} {s : Int × Int} (h : 0 ≤ s.1 ∧ s.1 ≤ n) (hf : 0 ≤ s.2) (h23 : 1 ≤ G 2 ∧ 1 ≤ G 3) : (0 ≤ (pSp T n k G x y s).1.1 ∧ (pSp T n k G x y s).1.1 ≤ n) ∧ 0 ≤ (pSp T n k G x y s).1.2 ∧ s.1 ≤ (pSp T n k G x y s).1.1 := by
  have a := nmR_in (T := T) (n := n) (lo := 0) (hi := G 2 - 1) h hf (by omega)
  have b := nmR_in (T := T) (n := n) (lo := 0) (hi := G 3 - 1) a.2.1 a.2.2.1 (by omega)
  have c := nmR_in (T := T) (n := n) (lo := 0) (hi := 12) b.2.1 b.2.2.1 (by decide)
  unfold pSp pS3
  simp only []
  split
  · exact ⟨c.2.1, c.2.2.1, by have := a.2.2.2.2; have := b.2.2.2.2; have := c.2.2.2.2; omega⟩
  · exact ⟨b.2.1, b.2.2.1, by have := a.2.2.2.2; have := b.2.2.2.2; simp only []; omega⟩
theorem pKd_in {T : Int → Int} {n k : Int} {G : GR} {s : Int × Int} (h : 0 ≤ s.1 ∧ s.1 ≤ n) (hf : 0 ≤ s.2) (h01 : 1 ≤ G 0 ∧ 1 ≤ G 1 ∧ 1 ≤ G 2 ∧ 1 ≤ G 3) : (0 ≤ (pKd T n k G s).1.1 ∧ (pKd T n k G s).1.1 ≤ n) ∧ 0 ≤ (pKd T n k G s).1.2 ∧ s.1 ≤ (pKd T n k G s).1.1 := by
  have a := nmR_in (T := T) (n := n) (lo := 0) (hi := G 0 - 1) h hf (by omega)
  have b := nmR_in (T := T) (n := n) (lo := 0) (hi := G 1 - 1) a.2.1 a.2.2.1 (by omega)
  have c := nmR_in (T := T) (n := n) (lo := 0) (hi := 9) b.2.1 b.2.2.1 (by decide)
  have e := pSp_in (G := G) (T := T) (n := n) (k := k) (x := (nmR T n 0 (G 0 - 1) s).1) (y := (nmR T n 0 (G 1 - 1) (nmR T n 0 (G 0 - 1) s).2).1) b.2.1 b.2.2.1 (by omega)
  have a5 := a.2.2.2.2
  have b5 := b.2.2.2.2
  have c5 := c.2.2.2.2
  unfold pKd
  simp only []
  split
  · exact ⟨c.2.1, c.2.2.1, Int.le_trans (Int.le_trans a5 b5) c5⟩
  · split
    · exact ⟨e.1, e.2.1, Int.le_trans (Int.le_trans a5 b5) e.2.2⟩
    · exact ⟨b.2.1, b.2.2.1, Int.le_trans a5 b5⟩
theorem pPt_in {T : Int → Int} {n a : Int} {G : GR} (h : 0 ≤ a ∧ a < n) (h01 : 1 ≤ G 0 ∧ 1 ≤ G 1 ∧ 1 ≤ G 2 ∧ 1 ≤ G 3) : (0 ≤ (pPt T n G a).1.1 ∧ (pPt T n G a).1.1 ≤ n) ∧ 0 ≤ (pPt T n G a).1.2 ∧ ((pPt T n G a).1.2 = 0 → a + 1 ≤ (pPt T n G a).1.1) := by
  have h1 := rn_in (P := pB_ T) (n := n) (a := a + 1) (by omega)
  have h2 := rn_in (P := pL_ T) h1.2
  rcases Classical.em (T a = 59) with q | q
  · rcases Classical.em (knd T (rn (pB_ T) n (a + 1)) (rn (pL_ T) n (rn (pB_ T) n (a + 1))) = 0) with z | z
    · rw [pPt_0 q z]
      exact ⟨⟨by simp only []; omega, by simp only []; omega⟩, by simp only []; omega, fun e => by simp only [] at e; omega⟩
    · rw [pPt_k q z]
      have := pKd_in (T := T) (n := n) (k := knd T (rn (pB_ T) n (a + 1)) (rn (pL_ T) n (rn (pB_ T) n (a + 1)))) (s := (rn (pL_ T) n (rn (pB_ T) n (a + 1)), 0)) (G := G) ⟨by simp only []; omega, by simp only []; omega⟩ (Int.le_refl _) h01
      exact ⟨this.1, this.2.1, fun _ => Int.le_trans (Int.le_trans h1.1 h2.1) this.2.2⟩
  · rw [pPt_n q]
    exact ⟨⟨by simp only []; omega, by simp only []; omega⟩, by simp only []; omega, fun e => by simp only [] at e; omega⟩
theorem zand255 (x : Int) : 0 ≤ zand x 255 ∧ zand x 255 ≤ 255 := by
  unfold zand
  have h : (Int32.ofInt x &&& Int32.ofInt 255).toBitVec.toNat ≤ 255 := by
    show ((Int32.ofInt x).toBitVec &&& 255#32).toNat ≤ 255
    rw [BitVec.toNat_and]
    exact Nat.and_le_right
  have e : (Int32.ofInt x &&& Int32.ofInt 255).toInt = (Int32.ofInt x &&& Int32.ofInt 255).toBitVec.toInt := rfl
  rw [e, BitVec.toInt_eq_toNat_of_lt (by omega)]
  omega
def byt (v k : Int) : Int := zand (zushr v k) 255
def fd (T : Int → Int) (n v : Int) : Int → Int := fun i => if i < n then T i else byt v (24 - 8 * (i - n))
theorem c_Tape_readHead {d : Nat} {kd : ZK} {m : ZM} {T : Int → Int} {n g : Int} (hT : TP kd m T n) (h2 : m 1 2 = 0) (h3 : m 1 3 = 0) (hs : GS kd m g) (hz : 55 < g) : CtV (d + 6) M_Tape_readHead [(2, 1), (2, g)] kd m (fun m1 => (∀ c, c ≠ 1 → (c < g ∨ g + 3 < c) → m1 c = m c) ∧ (m1 1 0 = m 1 0 ∧ m1 1 1 = m 1 1 ∧ 0 ≤ m1 1 2 ∧ m1 1 2 ≤ n) ∧ GS kd m1 g ∧ (¬ isHd T n → m1 1 3 = 8 * rn (pB_ T) n 0 + 1) ∧ (isHd T n → m1 1 2 = (pH4 T n).2.1 ∧ m1 1 3 = (pH4 T n).2.2 ∧ ((pH4 T n).2.2 = 0 → CG kd m1 g (pHG T n) ∧ GOK (pHG T n) ∧ 0 < pHG T n 0))) := by
  have hn := hT.2.2.2.2.1
  have hr := TT.rf (m := m)
  rw [h2, h3] at hr
  have hr1 := rn_in (P := pB_ T) (n := n) (a := 0) (by omega)
  obtain ⟨a1, ha1⟩ : ∃ r, r = rn (pB_ T) n 0 := ⟨_, rfl⟩
  rw [← ha1] at hr1
  have hr2 := rn_in (P := pL_ T) (n := n) (a := a1) (by omega)
  obtain ⟨b, hb⟩ : ∃ r, r = rn (pL_ T) n a1 := ⟨_, rfl⟩
  rw [← hb] at hr2
  have hHd : isHd T n ↔ isW T 0 a1 b := by rw [hb, ha1]; exact Iff.rfl
  have e1 : nmR T n 1 5 (b, 0) = pH1 T n := by rw [hb, ha1]; rfl
  have n1 := nmR_in (T := T) (n := n) (lo := 1) (hi := 5) (s := (b, 0)) ⟨by simp only []; omega, by simp only []; omega⟩ (Int.le_refl _) (by decide)
  rw [e1] at n1
  have n2 := nmR_in (T := T) (n := n) (lo := 1) (hi := 5) (s := (pH1 T n).2) n1.2.1 n1.2.2.1 (by decide)
  rw [show nmR T n 1 5 (pH1 T n).2 = pH2 T n from rfl] at n2
  have n3 := nmR_in (T := T) (n := n) (lo := 2) (hi := 4) (s := (pH2 T n).2) n2.2.1 n2.2.2.1 (by decide)
  rw [show nmR T n 2 4 (pH2 T n).2 = pH3 T n from rfl] at n3
  have n4 := nmR_in (T := T) (n := n) (lo := 2) (hi := 4) (s := (pH3 T n).2) n3.2.1 n3.2.2.1 (by decide)
  rw [show nmR T n 2 4 (pH3 T n).2 = pH4 T n from rfl] at n4
  refine S_Tape_readHead ?_
  refine ⟨hT.1, _, c_Tape_skipBlanks hT h2 h3 ⟨by omega, by omega⟩, ?_⟩
  rintro m3 hS
  rw [← ha1] at hS
  have hSb := hS.at (v := b)
  have q32 := hS.2.2.2.1
  refine ⟨hT.1, _, c_Tape_behindWord (a := a1) (f := 0) (hT.tt hS) hS.2.2.2.1 hS.2.2.2.2 ⟨by omega, by omega⟩, ?_⟩
  rintro _ _ ⟨rfl, rfl⟩
  rw [← hb]
  refine ⟨hT.1, _, c_Tape_isWord (a := a1) (f := 0) (hT.tt hS) hS.2.2.2.1 hS.2.2.2.2 ⟨by omega, by omega, by omega⟩ (by decide), ?_⟩
  rintro _ _ ⟨rfl, rfl⟩
  rw [q32]
  refine ⟨fun c1 => ?_, fun c1 => ?_⟩
  · have hw : isW T 0 a1 b := zb_ne0.1 c1
    refine ⟨hT.1, ?_⟩
    refine ⟨hT.1, _, c_Tape_readNumber (a := b) (f := 0) (hT.tt hSb) hSb.2.2.2.1 hSb.2.2.2.2 ⟨by omega, by omega⟩, ?_⟩
    rintro x11 m12 ⟨rfl, hN1⟩
    rw [e1] at hN1 ⊢
    have hT1 := hSb.tr hN1
    refine ⟨hT.1, _, c_Tape_readNumber (a := (pH1 T n).2.1) (f := (pH1 T n).2.2) (hT.tt hT1) hT1.2.2.2.1 hT1.2.2.2.2 n1.2.1, ?_⟩
    rintro x14 m15 ⟨rfl, hN2⟩
    rw [show nmR T n 1 5 ((pH1 T n).2.1, (pH1 T n).2.2) = pH2 T n from rfl] at hN2 ⊢
    have hT2 := hT1.tr hN2
    refine ⟨hT.1, _, c_Tape_readNumber (a := (pH2 T n).2.1) (f := (pH2 T n).2.2) (hT.tt hT2) hT2.2.2.2.1 hT2.2.2.2.2 n2.2.1, ?_⟩
    rintro x17 m18 ⟨rfl, hN3⟩
    rw [show nmR T n 2 4 ((pH2 T n).2.1, (pH2 T n).2.2) = pH3 T n from rfl] at hN3 ⊢
    have hT3 := hT2.tr hN3
    refine ⟨hT.1, _, c_Tape_readNumber (a := (pH3 T n).2.1) (f := (pH3 T n).2.2) (hT.tt hT3) hT3.2.2.2.1 hT3.2.2.2.2 n3.2.1, ?_⟩
    rintro x20 m21 ⟨rfl, hN4⟩
    rw [show nmR T n 2 4 ((pH3 T n).2.1, (pH3 T n).2.2) = pH4 T n from rfl] at hN4 ⊢
    have hT4 := hT3.tr hN4
    have hs21 : GS kd m21 g := hs.frame (hT4.1 g (by omega))
    rw [hN4.2.2.2.2]
    refine ⟨hT.1, ?_⟩
    refine ⟨fun c2 => ?_, fun c2 => ?_⟩
    · try simp only [zb_eq0, zb_ne0] at c2
      exact ⟨fun c c1 c2 => hT4.1 c c1, ⟨hT4.2.1, hT4.2.2.1, by rw [hT4.2.2.2.1]; exact n4.2.1.1, by rw [hT4.2.2.2.1]; exact n4.2.1.2⟩, hs21, fun h => absurd (hHd.2 hw) h, fun _ => ⟨hT4.2.2.2.1, (by first | rfl | exact hT4.2.2.2.2), fun h => absurd h (by assumption)⟩⟩
    · try simp only [zb_eq0, zb_ne0] at c2
      refine ⟨hs21.1, _, c_Game_start hs21 (by omega) (by omega) (by omega) (by omega), ?_⟩
      rintro m24 ⟨hC, hF⟩
      have e1' := hF 1 (by omega)
      have hok : GOK (pHG T n) := opStart_ok n1.1 n2.1 n3.1 n4.1
      exact ⟨fun c c1 c2 => by rw [hF c c2]; exact hT4.1 c c1, ⟨by rw [e1']; exact hT4.2.1, by rw [e1']; exact hT4.2.2.1, by rw [e1', hT4.2.2.2.1]; exact n4.2.1.1, by rw [e1', hT4.2.2.2.1]; exact n4.2.1.2⟩, hC.1, fun h => absurd (hHd.2 hw) h, fun _ => ⟨by rw [e1']; exact hT4.2.2.2.1, by rw [e1']; exact hT4.2.2.2.2, fun _ => ⟨hC, hok, by show 0 < (pH1 T n).1; have := n1.1; omega⟩⟩⟩
  · have hw : ¬ isW T 0 a1 b := fun h9 => c1 (zb_ne0.2 h9)
    refine ⟨hT.1, ?_⟩
    refine ⟨hT.1, _, c_Tape_blame (hT.tt hS) hS.2.2.2.1 hS.2.2.2.2 ⟨by omega, by omega⟩ ⟨by decide, by decide⟩, ?_⟩
    rintro m27 hbl
    rw [if_pos rfl] at hbl
    have hQ := hS.tr hbl
    exact ⟨fun c c1 c2 => hQ.1 c c1, ⟨hQ.2.1, hQ.2.2.1, by rw [hQ.2.2.2.1]; omega, by rw [hQ.2.2.2.1]; omega⟩, hs.frame (hQ.1 g (by omega)), fun _ => by rw [hQ.2.2.2.2, ← ha1], fun h => absurd (hHd.1 h) hw⟩
theorem c_Tape_readInto {d : Nat} {kd : ZK} {m : ZM} {T : Int → Int} {n g : Int} (hT : TP kd m T n) (hs : GS kd m g) (hz : 55 < g) : CtI (d + 8) M_Tape_readInto [(2, 1), (2, g)] kd m (fun x m1 => (∃ G, isTl T n x G ∧ (x = 0 → CG kd m1 g G ∧ GOK G ∧ 0 < G 0)) ∧ 0 ≤ x ∧ (∀ c, c ≠ 1 → (c < g ∨ g + 3 < c) → m1 c = m c) ∧ (m1 1 0 = m 1 0 ∧ m1 1 1 = m 1 1) ∧ GS kd m1 g) := by
  have hn := hT.2.2.2.2.1
  have hst0 : TT m (zup (zup m 1 2 0) 1 3 0) 0 0 := (TT.rf (m := m)).at.fl
  have hs0 : GS kd (zup (zup m 1 2 0) 1 3 0) g := hs.frame (hst0.1 g (by omega))
  refine S_Tape_readInto ⟨hT.1, hT.1, hT.1, _, c_Tape_readHead (hT.tt hst0) hst0.2.2.2.1 hst0.2.2.2.2 hs0 hz, ?_⟩
  rintro m3 ⟨hF3, ⟨h30, h31, h32a, h32b⟩, hs3, hX1, hX2⟩
  have hT3 : TP kd m3 T n := by
    unfold TP
    rw [h30, h31, hF3 2 (by decide) (by omega)]
    exact hT.tt hst0
  refine ⟨hT.1, _, c_Tape_skipBlanks hT3 rfl rfl ⟨h32a, h32b⟩, ?_⟩
  rintro m6 hS6
  have hT6 := hT3.tt hS6
  have hF6 : ∀ c, c ≠ 1 → (c < g ∨ g + 3 < c) → m6 c = m c := fun c c1 c2 => by rw [hS6.1 c c1, hF3 c c1 c2, hst0.1 c c1]
  have h60 : m6 1 0 = m 1 0 ∧ m6 1 1 = m 1 1 := ⟨by rw [hS6.2.1, h30, hst0.2.1], by rw [hS6.2.2.1, h31, hst0.2.2.1]⟩
  have h6s : GS kd m6 g := hs3.frame (hS6.1 g (by omega))
  have h63 := hS6.2.2.2.2
  have n1 : 0 ≤ rn (pB_ T) n 0 := (rnN_in _ _).1
  by_cases hf : m3 1 3 = 0
  · -- the head stands
    have hHd : isHd T n := Classical.byContradiction fun h => by have := hX1 h; omega
    have hX := hX2 hHd
    have h4f : (pH4 T n).2.2 = 0 := by rw [← hX.2.1]; exact hf
    have hC := hX.2.2 h4f
    rw [hX.1, hf] at hS6
    have hb0 := rn_in (P := pB_ T) (n := n) (a := (pH4 T n).2.1) (by rw [← hX.1]; exact h32b)
    have hb1 : 0 ≤ (pH4 T n).2.1 := by rw [← hX.1]; exact h32a
    obtain ⟨c0, hc0⟩ : ∃ c : PS, c = ((rn (pB_ T) n (pH4 T n).2.1, 0), pHG T n) := ⟨_, rfl⟩
    have L0 := zfor1 (400) (fun (i : Int) (mm : ZM) => Ev (d + 8) M_Tape_readInto 0 0 21 [(2, 1), (2, g), (0, i)] [] kd mm (zqI kd (fun x m1 => (∃ G, isTl T n x G ∧ (x = 0 → CG kd m1 g G ∧ GOK G ∧ 0 < G 0)) ∧ 0 ≤ x ∧ (∀ c, c ≠ 1 → (c < g ∨ g + 3 < c) → m1 c = m c) ∧ (m1 1 0 = m 1 0 ∧ m1 1 1 = m 1 1) ∧ GS kd m1 g))) (fun (i : Int) (mm : ZM) => 0 ≤ i ∧ (∀ c, c ≠ 1 → (c < g ∨ g + 3 < c) → mm c = m c) ∧ (mm 1 0 = m 1 0 ∧ mm 1 1 = m 1 1) ∧ ∃ c, pIt T n i.toNat c0 = c ∧ (∀ j, j < i.toNat → pCo n (pIt T n j c0)) ∧ (mm 1 2 = c.1.1 ∧ mm 1 3 = c.1.2) ∧ ((0 ≤ c.1.1 ∧ c.1.1 ≤ n) ∧ 0 ≤ c.1.2 ∧ (c.1.2 = 0 → i ≤ c.1.1)) ∧ CG kd mm g c.2 ∧ GOK c.2 ∧ 0 < c.2 0) (by
      intro i mm hb hI0 KL0
      obtain ⟨hi0, hF, hm01, c, hc, hco, ⟨p2, p3⟩, ⟨hcb, hcf, hci⟩, hgm, hok, ht⟩ := hI0
      have hTm : TP kd mm T n := by
        unfold TP
        rw [hm01.1, hm01.2, hF 2 (by decide) (by omega)]
        exact hT
      have p1 := hTm.2.2.2.1
      have hfin : ¬ pCo n c → isTl T n c.1.2 c.2 := fun h => Or.inr (Or.inr ⟨hHd, h4f, c.1.1, i.toNat, by rw [← hc0]; exact hc, h, by rw [← hc0]; exact hco⟩)
      refine T_Tape_readInto_21 ?_
      simp only [p1, p2, p3]
      refine ⟨fun c1 => ?_, fun c1 => ?_⟩
      · skip
        refine ⟨hTm.1, ?_⟩
        first | exact ⟨⟨c.2, hfin (fun h => by have := hci h.1; have := h.2; omega), fun _ => ⟨hgm, hok, ht⟩⟩, hcf, hF, ⟨hm01.1, p1.symm.trans hm01.2⟩, hgm.1⟩ | exact ⟨⟨c.2, hfin (fun h => absurd h.1 (by assumption)), fun _ => ⟨hgm, hok, ht⟩⟩, hcf, hF, ⟨hm01.1, p1.symm.trans hm01.2⟩, hgm.1⟩ | exact ⟨⟨c.2, hfin (fun h => by have := h.2; omega), fun _ => ⟨hgm, hok, ht⟩⟩, hcf, hF, ⟨hm01.1, p1.symm.trans hm01.2⟩, hgm.1⟩
      · skip
        refine ⟨hTm.1, ?_⟩
        refine ⟨fun c2 => ?_, fun c2 => ?_⟩
        · skip
          refine ⟨hTm.1, ?_⟩
          first | exact ⟨⟨c.2, hfin (fun h => by have := hci h.1; have := h.2; omega), fun _ => ⟨hgm, hok, ht⟩⟩, hcf, hF, ⟨hm01.1, p1.symm.trans hm01.2⟩, hgm.1⟩ | exact ⟨⟨c.2, hfin (fun h => absurd h.1 (by assumption)), fun _ => ⟨hgm, hok, ht⟩⟩, hcf, hF, ⟨hm01.1, p1.symm.trans hm01.2⟩, hgm.1⟩ | exact ⟨⟨c.2, hfin (fun h => by have := h.2; omega), fun _ => ⟨hgm, hok, ht⟩⟩, hcf, hF, ⟨hm01.1, p1.symm.trans hm01.2⟩, hgm.1⟩
        · skip
          refine ⟨hTm.1, hTm.1, ?_⟩
          refine ⟨fun c3 => ?_, fun c3 => ?_⟩
          · skip
            refine ⟨hTm.1, ?_⟩
            first | exact ⟨⟨c.2, hfin (fun h => by have := hci h.1; have := h.2; omega), fun _ => ⟨hgm, hok, ht⟩⟩, hcf, hF, ⟨hm01.1, p1.symm.trans hm01.2⟩, hgm.1⟩ | exact ⟨⟨c.2, hfin (fun h => absurd h.1 (by assumption)), fun _ => ⟨hgm, hok, ht⟩⟩, hcf, hF, ⟨hm01.1, p1.symm.trans hm01.2⟩, hgm.1⟩ | exact ⟨⟨c.2, hfin (fun h => by have := h.2; omega), fun _ => ⟨hgm, hok, ht⟩⟩, hcf, hF, ⟨hm01.1, p1.symm.trans hm01.2⟩, hgm.1⟩
          · skip
            refine ⟨hTm.1, _, c_Tape_readPart (a := c.1.1) hTm p2 (by rw [p3]; exact Classical.not_not.1 (by assumption)) ⟨hcb.1, by omega⟩ hgm hok hz ht, ?_⟩
            rintro m3 hQ
            have hf0 : c.1.2 = 0 := Classical.not_not.1 (by assumption)
            have htt := hok.2.1 ht
            have hpi := pPt_in (T := T) (n := n) (a := c.1.1) (G := c.2) ⟨hcb.1, by omega⟩ ⟨by omega, by omega, by omega, by omega⟩
            have hTq : TP kd m3 T n := by
              unfold TP
              rw [hQ.2.1.1, hQ.2.1.2.1, hQ.1 2 (by decide) (by omega)]
              exact hTm
            refine ⟨hTm.1, _, c_Tape_skipBlanks hTq hQ.2.1.2.2.1 hQ.2.1.2.2.2 hpi.1, ?_⟩
            rintro m6 hS
            rw [iw_s (x := i + 1) (by omega) (by omega)]
            have hpc : pCo n c := ⟨hf0, by omega⟩
            have hb9 := rn_in (P := pB_ T) (n := n) hpi.1.2
            have hpis := hpi.1.1
            have hstep : pIt T n (i + 1).toNat c0 = pSt T n c := by rw [show (i + 1).toNat = i.toNat + 1 by omega, pIt, hc]
            refine KL0 _ (by omega) ⟨by omega, fun e e1 e2 => by rw [hS.1 e e1, hQ.1 e e1 e2]; exact hF e e1 e2, ⟨by rw [hS.2.1, hQ.2.1.1]; exact hm01.1, by rw [hS.2.2.1, hQ.2.1.2.1]; exact hm01.2⟩, pSt T n c, hstep, fun j hj => ?_, ⟨hS.2.2.2.1, hS.2.2.2.2⟩, ⟨⟨?_, hb9.2⟩, hpi.2.1, fun h => ?_⟩, hQ.2.2.1.frame (fun e e1 e2 => hS.1 e (by omega)), hQ.2.2.2.1, ?_⟩
            · rcases (show j < i.toNat ∨ j = i.toNat by omega) with q | q
              · exact hco j q
              · rw [q, hc]; exact hpc
            · show 0 ≤ rn (pB_ T) n (pPt T n c.2 c.1.1).1.1
              omega
            · show i + 1 ≤ rn (pB_ T) n (pPt T n c.2 c.1.1).1.1
              have := hpi.2.2 h
              have := hci hf0
              omega
            · show 0 < (pPt T n c.2 c.1.1).2 0
              rw [hQ.2.2.2.2.1]
              exact ht)
    exact L0 0 m6 (by decide) ⟨by decide, hF6, h60, c0, rfl, fun j hj => absurd hj (by simp), by rw [hc0]; exact ⟨hS6.2.2.2.1, hS6.2.2.2.2⟩, by rw [hc0]; exact ⟨⟨by simp only []; omega, hb0.2⟩, Int.le_refl _, fun _ => by simp only []; omega⟩, by rw [hc0]; exact hC.1.frame (fun e e1 e2 => hS6.1 e (by omega)), by rw [hc0]; exact hC.2.1, by rw [hc0]; exact hC.2.2⟩
  · -- the head doesn't stand
    have hTl : isTl T n (m3 1 3) (fun _ => 0) ∧ 0 ≤ m3 1 3 := by
      rcases Classical.em (isHd T n) with q | q
      · have hX := hX2 q
        rw [hX.2.1] at hf
        have n4 : 0 ≤ (pH4 T n).2.2 := by
          have r1 := rn_in (P := pB_ T) (n := n) (a := 0) hn.1
          have r2 := rn_in (P := pL_ T) r1.2
          have m1 := nmR_in (T := T) (n := n) (lo := 1) (hi := 5) (s := (rn (pL_ T) n (rn (pB_ T) n 0), 0)) ⟨by simp only []; omega, r2.2⟩ (Int.le_refl _) (by decide)
          have m2 := nmR_in (T := T) (n := n) (lo := 1) (hi := 5) (s := (pH1 T n).2) m1.2.1 m1.2.2.1 (by decide)
          have m3' := nmR_in (T := T) (n := n) (lo := 2) (hi := 4) (s := (pH2 T n).2) m2.2.1 m2.2.2.1 (by decide)
          exact (nmR_in (T := T) (n := n) (lo := 2) (hi := 4) (s := (pH3 T n).2) m3'.2.1 m3'.2.2.1 (by decide)).2.2.1
        rw [hX.2.1]
        exact ⟨Or.inr (Or.inl ⟨q, hf, rfl⟩), n4⟩
      · have hX := hX1 q
        exact ⟨Or.inl ⟨q, hX⟩, by omega⟩
    have hq : ∃ G, isTl T n (m3 1 3) G ∧ (m3 1 3 = 0 → CG kd m6 g G ∧ GOK G ∧ 0 < G 0) := ⟨_, hTl.1, fun h => absurd h hf⟩
    have hTm := hT6
    refine T_Tape_readInto_21 ?_
    rw [h63]
    refine ⟨fun c1 => ?_, fun c1 => ?_⟩
    · skip
      refine ⟨hT.1, ?_⟩
      exact ⟨hq, hTl.2, hF6, h60, h6s⟩
    · skip
      refine ⟨hT.1, ?_⟩
      refine ⟨fun c2 => ?_, fun c2 => ?_⟩
      · skip
        refine ⟨hT.1, ?_⟩
        exact ⟨hq, hTl.2, hF6, h60, h6s⟩
      · skip
        refine ⟨hT.1, hT.1, ?_⟩
        refine ⟨fun c3 => ?_, fun c3 => ?_⟩
        · skip
          refine ⟨hT.1, ?_⟩
          exact ⟨hq, hTl.2, hF6, h60, h6s⟩
        · skip
          refine ⟨hT.1, fun _ => True, (absurd hf (by assumption)), ?_⟩
          rintro m3 hQ_
          refine ⟨hT.1, fun _ => True, (absurd hf (by assumption)), ?_⟩
          rintro m6 hQ_
          exact absurd hf (by omega)
theorem c_Tape_hasRoomForFive {d : Nat} {kd : ZK} {m : ZM} {T : Int → Int} {n : Int} (hT : TP kd m T n) : CtI (d + 1) M_Tape_hasRoomForFive [(2, 1)] kd m (qE m (zb (n + 20 ≤ 400))) := by
  have p1 := hT.2.2.2.1
  have hn := hT.2.2.2.2.1
  refine S_Tape_hasRoomForFive ?_
  rw [p1, iw_s (x := n + 20) (by omega) (by omega)]
  refine ⟨hT.1, ?_⟩
  refine ⟨fun c1 => ?_, fun c1 => ?_⟩
  · skip
    first | exact ⟨(zb_f (by omega)).symm, rfl⟩ | exact ⟨(zb_t (by omega)).symm, rfl⟩
  · skip
    first | exact ⟨(zb_f (by omega)).symm, rfl⟩ | exact ⟨(zb_t (by omega)).symm, rfl⟩
theorem c_Tape_addNumber {d : Nat} {kd : ZK} {m : ZM} {T : Int → Int} {n v : Int} (hT : TP kd m T n) (h4 : n + 4 ≤ 400) : CtV (d + 1) M_Tape_addNumber [(2, 1), (0, v)] kd m (fun m1 => TP kd m1 (fd T n v) (n + 4) ∧ ∀ c, c ≠ 1 → c ≠ 2 → m1 c = m c) := by
  have hn := hT.2.2.2.2.1
  have L0 := zfor2 (4) (fun (i : Int) (mm : ZM) (s : Int) => Ev (d + 1) M_Tape_addNumber 0 0 3 [(2, 1), (0, v), (0, s)] [] kd mm (zqV kd (fun m1 => TP kd m1 (fd T n v) (n + 4) ∧ ∀ c, c ≠ 1 → c ≠ 2 → m1 c = m c))) (fun (i : Int) (mm : ZM) (s : Int) => (0 ≤ i ∧ s = 24 - 8 * i) ∧ (∀ c, c ≠ 1 → c ≠ 2 → mm c = m c) ∧ (mm 1 0 = 2 ∧ mm 1 1 = n + i) ∧ ∀ j, 0 ≤ j → j < n + i → mm 2 j = fd T n v j) (by
    intro i mm s hb hI0 KL0
    obtain ⟨⟨hi0, hs⟩, hF, ⟨p0, p1⟩, hX⟩ := hI0
    have zs : ∀ x y, (zup mm 2 x y) 1 = mm 1 := fun x y => zup_off (by decide)
    refine T_Tape_addNumber_3 ?_
    simp only [p0, p1, zs]
    refine ⟨fun c1 => ?_, fun c1 => ?_⟩
    · skip
      refine ⟨⟨hT.1, p0, hT.2.2.1, by rw [p1]; omega, ⟨by omega, by omega⟩, fun j j0 j1 => ?_⟩, hF⟩
      refine ⟨hX j j0 (by omega), ?_⟩
      unfold fd
      split
      · exact (hT.2.2.2.2.2 j j0 (by omega)).2
      · exact zand255 _
    · skip
      refine ⟨hT.1, ?_⟩
      refine ⟨fun c2 => ?_, fun c2 => ?_⟩
      · skip
        refine ⟨⟨hT.1, p0, hT.2.2.1, by rw [p1]; omega, ⟨by omega, by omega⟩, fun j j0 j1 => ?_⟩, hF⟩
        refine ⟨hX j j0 (by omega), ?_⟩
        unfold fd
        split
        · exact (hT.2.2.2.2.2 j j0 (by omega)).2
        · exact zand255 _
      · skip
        refine ⟨hT.1, hT.1, ⟨400, hT.2.2.1, by omega, by omega⟩, hT.1, hT.1, ?_⟩
        rw [iw_s (x := s + -8) (by omega) (by omega), iw_s (x := n + i + 1) (by omega) (by omega)]
        refine KL0 _ _ (by omega) ⟨⟨by omega, by omega⟩, fun c c1 c2 => by rw [zup_off c1, zup_off c2]; exact hF c c1 c2, ⟨?_, ?_⟩, fun j j0 j1 => ?_⟩
        · rw [zup_at, gup_off (by decide), zs]; exact p0
        · rw [zup_at, gup_at]; omega
        · rw [zup_off (by decide), zup_at]
          rcases (show j = n + i ∨ j < n + i by omega) with q | q
          · rw [q, gup_at, fd, if_neg (by omega), byt, hs, show n + i - n = i by omega]
          · rw [gup_off (by omega)]; exact hX j j0 q)
  refine S_Tape_addNumber ?_
  exact L0 0 m 24 (by omega) ⟨⟨by omega, by omega⟩, fun _ _ _ => rfl, ⟨hT.2.1, by rw [hT.2.2.2.1]; omega⟩, fun j j0 j1 => by rw [fd, if_pos (by omega)]; exact (hT.2.2.2.2.2 j j0 (by omega)).1⟩
