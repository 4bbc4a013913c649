/-! A NIGHT: TIRED behind it, alike in both -/
theorem yn_tire {c n : Nat} {be il : Int32} {ro ca mo wi ca' mo' wi' il' ti M M' : Nat → Int32} {Hd : Nat → Nat → Int32} (hc : c ≤ 8) (hn : n ≤ 8) (hro : ∀ h, h < 8 → -1 ≤ (ro h).toInt ∧ (ro h).toInt < (c : Int)) (hr : ∀ r, r < c → ca r = ca' r ∧ mo r = mo' r ∧ wi r = wi' r ∧ (yhb il (Int32.ofNat r) ↔ ¬ il' r = 0)) (hH : ∀ r h, r < 8 → h < 8 → 0 ≤ (Hd r h).toInt ∧ (Hd r h).toInt ≤ 999) (hM : ∀ i, i < 8 → M i = yn_m c (yn_n c be il ro ca mo wi n).2.1 ro Hd n i) (hM' : ∀ i, i < 8 → M' i = yr_m be ro ca' mo' wi' il' Hd n i) (hti : ∀ i, i < 8 → 0 ≤ (ti i).toInt ∧ (ti i).toInt ≤ 99) : ∀ i, i < 8 → ycl (if (yn_n c be il ro ca mo wi n).2.2.1 i ≤ 0 then ti i - 5 else ti i + M i) 0 99 = ytr ((yn_rn be ro ca' mo' wi' il' n).2.2.1 i) (ti i) (M' i) ∧ 0 ≤ (ytr ((yn_rn be ro ca' mo' wi' il' n).2.2.1 i) (ti i) (M' i)).toInt ∧ (ytr ((yn_rn be ro ca' mo' wi' il' n).2.2.1 i) (ti i) (M' i)).toInt ≤ 99 := by
  intro i hi
  have hW := (yn_eq (be := be) (il := il) (ro := ro) hc hro hr n hn).1
  have hbits : ∀ k, k < n → (yhb (yn_n c be il ro ca mo wi n).2.1 (Int32.ofNat k) ↔ yrd be ro ca' mo' wi' il' k) := by
    intro k hk
    rw [hW, yrd_bits n hn k (by omega)]
    exact ⟨fun z => z.2, fun z => ⟨hk, z⟩⟩
  have hMM : M i = M' i := by
    rw [hM i hi, hM' i hi, yn_m_eq hro n hn hbits]
  have hb := yrm_r (be := be) (ro := ro) (ca := ca') (mo := mo') (wi := wi') (il := il') hH (fun h hh => by have := (hro h hh).2; omega) n hn i
  rw [← hM' i hi] at hb
  have hrd := yrn_r (be := be) (ro := ro) (ca := ca') (mo := mo') (wi := wi') (il := il') n hn i
  rw [hW, hMM]
  have hMb : 0 ≤ (M' i).toInt ∧ (M' i).toInt ≤ 100000 := ⟨hb.1, by omega⟩
  exact ⟨ytr_eq hrd.1 (hti i hi) hMb, ytr_r (hti i hi) hMb⟩
