/-! DUO: rows of answers -/
def rwD (p : Int) : Int := if p = 0 then 53 else 54
def DU (kd : ZK) (m : ZM) : Prop := (zobj kd 52 0 ∧ m 52 0 = 53 ∧ m 52 1 = 54 ∧ m 52 2 = 55) ∧ zarr kd 53 0 5 ∧ zarr kd 54 0 5 ∧ zarr kd 55 0 5
theorem DU.row {kd : ZK} {m : ZM} (h : DU kd m) (p : Int) : zarr kd (rwD p) 0 5 := by
  unfold rwD; split
  · exact h.2.1
  · exact h.2.2.1
theorem DU.frame {kd : ZK} {m m' : ZM} (h : DU kd m) (e : m' 52 = m 52) : DU kd m' := by
  unfold DU; rw [e]; exact h
/-- a number told digit by digit -/
def zhn : Nat → (Int → Int) → Int
  | 0, _ => 0
  | n + 1, r => zhn n r * 10 + r n
theorem zhn_1 {i : Int} (h : 0 ≤ i) (r : Int → Int) : zhn (i + 1).toNat r = zhn i.toNat r * 10 + r i := by
  have e : (i + 1).toNat = i.toNat + 1 := by omega
  rw [e, zhn]
  congr 2
  omega
theorem zhn_in {r : Int → Int} : ∀ n : Nat, n ≤ 5 → (∀ q : Int, 0 ≤ q → q < n → 0 ≤ r q ∧ r q ≤ 9) → 0 ≤ zhn n r ∧ zhn n r < 10 ^ n := by
  intro n
  induction n with
  | zero => intro _ _; simp [zhn]
  | succ n ih =>
    intro h5 h
    have h1 := ih (by omega) (fun q q1 q2 => h q q1 (by omega))
    have h2 := h n (by omega) (by omega)
    rw [zhn, Int.pow_succ]
    omega
theorem c_Duo_answersBy {d : Nat} {kd : ZK} {m : ZM} {p : Int} (hd : DU kd m) : CtR (d + 1) M_Duo_answersBy [(2, 52), (0, p)] kd m (qE m (rwD p)) := by
  refine S_Duo_answersBy ?_
  refine ⟨fun c1 => ?_, fun c1 => ?_⟩
  · skip
    refine ⟨hd.1.1, ?_⟩
    refine ⟨?_, rfl⟩
    unfold rwD
    first | (rw [if_neg (by assumption)]; exact hd.1.2.2.1) | (rw [if_pos (by omega)]; exact hd.1.2.1)
  · skip
    refine ⟨hd.1.1, ?_⟩
    refine ⟨?_, rfl⟩
    unfold rwD
    first | (rw [if_neg (by assumption)]; exact hd.1.2.2.1) | (rw [if_pos (by omega)]; exact hd.1.2.1)
theorem c_Duo_numberOf {d : Nat} {kd : ZK} {m : ZM} {a n : Int} {k : Nat} (ha : zarr kd a 0 k) (hk : n ≤ k) (hn : 0 ≤ n ∧ n ≤ 5) (hr : ∀ q, 0 ≤ q → q < n → 0 ≤ m a q ∧ m a q ≤ 9) : CtI (d + 1) M_Duo_numberOf [(2, a), (0, n)] kd m (qE m (zhn n.toNat (m a))) := by
  have L0 := zfor1 (n) (fun (i : Int) (t : Int) => Ev (d + 1) M_Duo_numberOf 0 0 4 [(2, a), (0, n), (0, t), (0, i)] [] kd m (zqI kd (qE m (zhn n.toNat (m a))))) (fun (i : Int) (t : Int) => 0 ≤ i ∧ t = zhn i.toNat (m a)) (by
    intro i t hb hI0 KL0
    obtain ⟨hi0, ht⟩ := hI0
    have hb1 := zhn_in (r := m a) i.toNat (by omega) (fun q q1 q2 => hr q q1 (by omega))
    have hb2 : (10 : Int) ^ i.toNat ≤ 10 ^ 5 := by exact_mod_cast Nat.pow_le_pow_right (by decide) (show i.toNat ≤ 5 by omega)
    refine T_Duo_numberOf_4 ?_
    refine ⟨fun c1 => ?_, fun c1 => ?_⟩
    · skip
      exact ⟨by rw [ht, show i = n by omega], rfl⟩
    · skip
      refine ⟨⟨k, ha, by omega, by omega⟩, ?_⟩
      rw [iw_s (x := i + 1) (by omega) (by omega)]
      have hd := hr i hi0 (by omega)
      rw [iw_s (x := t * 10) (by omega) (by omega), iw_s (by omega) (by omega)]
      exact KL0 _ (by omega) ⟨by omega, by rw [zhn_1 hi0, ht]⟩)
  refine S_Duo_numberOf ?_
  exact L0 0 0 (by omega) ⟨by omega, rfl⟩
