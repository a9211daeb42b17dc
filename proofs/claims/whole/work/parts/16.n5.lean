/-! ===== write ===== -/
theorem sh_8 : ∀ k, k < 8 → (((8 : Int32) * nI k).toInt64.toUInt64 &&& Int64.toUInt64 63).toBitVec % 64 = BitVec.ofNat 64 (8 * k) ∧ (((8 : Int32) * nI k).toInt64 &&& 63).toBitVec.smod 64 = BitVec.ofNat 64 (8 * k) := by decide +kernel
theorem byte_eq (x : Int64) {k : Nat} (hk : k < 8) : ((x.toUInt64 >>> (((8 : Int32) * nI k).toInt64.toUInt64 &&& Int64.toUInt64 63)).toInt64).toInt32 &&& 255 = ((x >>> (((8 : Int32) * nI k).toInt64 &&& (63 : Int64))) &&& (255 : Int64)).toInt32 := by
  have h := sh_8 k hk
  generalize ((8 : Int32) * nI k).toInt64.toUInt64 &&& Int64.toUInt64 63 = y at h ⊢
  generalize ((8 : Int32) * nI k).toInt64 &&& (63 : Int64) = z at h ⊢
  apply Int32.toBitVec_inj.mp
  rw [Int32.toBitVec_and, Int64.toBitVec_toInt32, Int64.toBitVec_toInt32, Int64.toBitVec_and, Int64.toBitVec_shiftRight, BitVec.sshiftRight_eq', h.2]
  have e1 : (x.toUInt64 >>> y).toInt64.toBitVec = x.toBitVec >>> (BitVec.ofNat 64 (8 * k)) := by
    show (x.toUInt64 >>> y).toBitVec = _
    rw [UInt64.toBitVec_shiftRight, h.1]
    rfl
  rw [e1]
  have e2 : (BitVec.ofNat 64 (8 * k)).toNat = 8 * k := by
    rw [BitVec.toNat_ofNat]; omega
  rw [BitVec.ushiftRight_eq', e2]
  have t32 : (255 : Int32).toBitVec = 255#32 := by decide
  have t64 : (255 : Int64).toBitVec = 255#64 := by decide
  rw [t32, t64]
  have l32 : ∀ i, i < 32 → (255#32).getLsbD i = decide (i < 8) := by decide
  have l64 : ∀ i, i < 32 → (255#64).getLsbD i = decide (i < 8) := by decide
  apply BitVec.eq_of_getLsbD_eq
  intro i hi
  rw [BitVec.getLsbD_and, BitVec.getLsbD_signExtend, BitVec.getLsbD_signExtend, if_pos (show i < 64 by omega), if_pos (show i < 64 by omega), BitVec.getLsbD_and, BitVec.getLsbD_ushiftRight, BitVec.getLsbD_sshiftRight, l32 i hi, l64 i hi]
  by_cases h8 : i < 8
  · have c1 : 8 * k + i < 64 := by omega
    simp [h8, c1, hi]
    omega
  · simp [h8]
def byX (x : Int64) (k : Nat) : Int32 := ((x.toUInt64 >>> (((8 : Int32) * nI k).toInt64.toUInt64 &&& Int64.toUInt64 63)).toInt64).toInt32 &&& 255
theorem byX_lt (x : Int64) (k : Nat) : ∃ c : Nat, c < 256 ∧ byX x k = nI c := pk_andE _ 8 (by decide)
def wrA (tx : Nat → Int32) (x : Int64) (n m : Nat) : Nat → Nat → Int32
  | 0 => tx
  | k + 1 => upd (wrA tx x n m k) (n + k) (byX x (m - 1 - k))
theorem wrA_ok {tx : Nat → Int32} {x : Int64} {n m : Nat} (h : ∀ j : Nat, ∃ c : Nat, c < 256 ∧ tx j = nI c) : ∀ k (j : Nat), ∃ c : Nat, c < 256 ∧ wrA tx x n m k j = nI c := by
  intro k
  induction k with
  | zero => exact h
  | succ k ih =>
    intro j
    unfold wrA
    by_cases e : j = n + k
    · subst e; rw [pk_us]; exact byX_lt _ _
    · rw [pk_un e]; exact ih j
theorem st_write : St_write := by
  intro tx tl lw ice mk wt bd s6 s8 s7 s1 s5 s2 u0 u1 sm kz kb km kw a1 a2 hI
  obtain ⟨⟨n, hn, rfl⟩, hT⟩ := hI.1
  simp only [f_X10_write, f_X11_write, within_n, in_1_8, Option.bind_some, ite10]
  by_cases h : (1 : Int32) ≤ a1 ∧ a1 ≤ 8
  rotate_left
  · rw [if_neg h, if_neg h]; exact ⟨-2, _, _, rfl, rfl, hI⟩
  rw [if_pos h, if_pos h]
  obtain ⟨m, hm, rfl⟩ := rg 8 (by omega) rfl ⟨Int32.le_trans (by decide) h.1, h.2⟩
  have hm1 : 1 ≤ m := (nI_leI (a := 1) (by omega) (by omega)).mp h.1
  unfold f_X9_hasRoomFor
  rw [show (48 : Int32) = nI 48 from rfl, pk_sub hn, nI_add]
  by_cases hr : n + m ≤ 48
  · rw [if_neg (nI_nlt (show m ≤ 48 - n by omega) (by omega)), if_pos (nI_le hr (by omega)), Option.bind_some, if_neg (by decide)]
    refine ⟨nI (n + m), wrA tx a2 n m m, nI (n + m), ?_, ?_, ⟨⟨n + m, hr, rfl⟩, wrA_ok hT m⟩, hI.2⟩
    · have e : f_X9_put tx (nI n) (nI m) a2 = some (wrA tx a2 n m m, nI (n + m)) := by
        unfold f_X9_put
        refine lp_bd (fun k => (nI (m - k) - 1, wrA tx a2 n m k, nI (n + k))) (wrA tx a2 n m m, nI (n + m)) m (FU_lt (by omega)) rfl rfl ?_ ?_
        · intro k hk
          show f_X9_put_b5 a2 (nI (m - k) - 1) (wrA tx a2 n m k) (nI (n + k)) = _
          rw [show m - k = (m - 1 - k) + 1 by omega, nI_pred]
          unfold f_X9_put_b5
          rw [if_neg (nI_nn (by omega)), if_neg (nleL 48 48 rfl (by omega) (by omega)), gd_n (by omega) (by omega), nI_clamp (by omega), nI1, m1_n, show m - (k + 1) = m - 1 - k by omega]
          rfl
        · show f_X9_put_b5 a2 (nI (m - m) - 1) _ _ = _
          unfold f_X9_put_b5
          rw [Nat.sub_self, if_pos (by decide)]
      rw [e]; rfl
    · refine lp_bd (fun k => (nI (m - k) - 1, wrA tx a2 n m k, nI (n + k))) (wrA tx a2 n m m, nI (n + m)) m (FU_lt (by omega)) rfl rfl ?_ ?_
      · intro k hk
        show f_X11_write_b34 a2 (nI (m - k) - 1) (wrA tx a2 n m k) (nI (n + k)) = _
        rw [show m - k = (m - 1 - k) + 1 by omega, nI_pred]
        unfold f_X11_write_b34
        rw [if_neg (nI_nn (by omega)), gd_n (by omega) (by omega), nI_clamp (by omega), nI1, m1_n, show m - (k + 1) = m - 1 - k by omega, ← byte_eq a2 (by omega)]
        rfl
      · show f_X11_write_b34 a2 (nI (m - m) - 1) _ _ = _
        unfold f_X11_write_b34
        rw [Nat.sub_self, if_pos (by decide)]
  · rw [if_pos (nI_lt (show 48 - n < m by omega) (by omega)), if_neg (nI_ge (by omega) (by omega)), Option.bind_some, if_pos rfl]
    exact ⟨-4, _, _, rfl, rfl, hI⟩
theorem st_0 : InvS (fun _ => 0) 0 (fun _ => 0) (fun _ => 0) (fun _ => 0) w1111 0 ((fun _ => 0), (fun _ => 0), 0, 0) ((fun _ => 0), w1111, 0, 0) ((fun _ => 0), w1111, 0, 0) (fun _ => 0) (fun _ => 0) (fun _ => 0) (fun _ => 0) := by
  refine ⟨⟨⟨0, by omega, rfl⟩, fun j => ⟨0, by omega, rfl⟩⟩, fun j => ⟨0, by omega, rfl⟩, fun j => ⟨0, by omega, rfl⟩, ⟨0, by omega, rfl, fun b hb => absurd hb (Nat.not_lt_zero b)⟩, fun s hs => ⟨1, by omega, ?_⟩, rfl, ⟨rfl, Or.inl rfl, fun h => absurd h (by decide)⟩, ⟨rfl, Or.inl rfl, fun h => absurd h (by decide)⟩⟩
  revert s
  decide
