/-! ===== numbers ===== -/
theorem i_lt {a b : Int32} : a < b ↔ a.toInt < b.toInt := Int32.lt_iff_toInt_lt
theorem i_le {a b : Int32} : a ≤ b ↔ a.toInt ≤ b.toInt := Int32.le_iff_toInt_le
theorem i_eq {a b : Int32} : a = b ↔ a.toInt = b.toInt := Int32.toInt_inj.symm
abbrev tOk (n : Nat) (v : Int32) : Prop := 0 ≤ v ∧ v ≤ nI n - 1
theorem nI_m1 {n : Nat} (hn : n < 2 ^ 30) : (nI n - 1).toInt = (n : Int) - 1 := by
  have h := pk_sub_toInt (a := n) (b := 1) hn (by decide)
  exact h
theorem tOk_iff {n : Nat} {v : Int32} (hn : n < 2 ^ 30) : tOk n v ↔ ∃ j, j < n ∧ v = nI j := by
  unfold tOk
  rw [i_le, i_le, nI_m1 hn]
  constructor
  · rintro ⟨h1, h2⟩
    have h3 : (0 : Int32).toInt = 0 := rfl
    rw [h3] at h1
    refine ⟨v.toInt.toNat, by omega, ?_⟩
    rw [i_eq, nI_toInt (by omega)]
    omega
  · rintro ⟨j, h1, rfl⟩
    rw [nI_toInt (by omega)]
    have h3 : (0 : Int32).toInt = 0 := rfl
    omega
theorem tOk_nI {n j : Nat} (h : j < n) (hn : n < 2 ^ 30) : tOk n (nI j) := (tOk_iff hn).mpr ⟨j, h, rfl⟩
theorem nI_inj {a b : Nat} (ha : a < 2 ^ 31) (hb : b < 2 ^ 31) (h : nI a = nI b) : a = b := (nI_eq ha hb).mp h
theorem nI_20 : nI 20 = 20 := rfl
theorem nI_300 : nI 300 = 300 := rfl
theorem nI_60 : nI 60 = 60 := rfl
theorem nI_ne {a b : Nat} (ha : a < 2 ^ 31) (hb : b < 2 ^ 31) (h : a ≠ b) : nI a ≠ nI b := fun z => h (nI_inj ha hb z)
theorem nI_nm1 {n : Nat} (h : n < 2 ^ 31) : nI n ≠ -1 := by
  rw [ne_eq, i_eq, nI_toInt h]
  have : (-1 : Int32).toInt = -1 := rfl
  omega
theorem pm_fix.lt {σ τ : pm_S} {a k n : Nat} (h : pm_fix σ) (h1 : qL τ = qL σ) (ha : (Nat.ble 6 a && Nat.blt a 68) = true) (hk : k < n) (hn : Nat.ble n (pm_ln a) = true) : k < qL τ a := by
  rw [h.ln h1 ha]
  exact Nat.lt_of_lt_of_le hk (Nat.le_of_ble_eq_true hn)
/-! reading behind writing -/
theorem qI_sI {σ : pm_S} {a k : Nat} {x : Int32} (b j : Nat) : qI (pm_sI σ a k x) b j = if b = a ∧ j = k then x else qI σ b j := rfl
theorem qI_sI_ne {σ : pm_S} {a k : Nat} {x : Int32} {b j : Nat} (h : ¬ (b = a ∧ j = k)) : qI (pm_sI σ a k x) b j = qI σ b j := if_neg h
theorem qI_sI_nc {σ : pm_S} {a k : Nat} {x : Int32} {b j : Nat} (h : b ≠ a) : qI (pm_sI σ a k x) b j = qI σ b j := if_neg (fun z => h z.1)
theorem qI_sI_eq {σ : pm_S} {a k : Nat} {x : Int32} : qI (pm_sI σ a k x) a k = x := if_pos ⟨rfl, rfl⟩
theorem qR_sI {σ : pm_S} {a k : Nat} {x : Int32} : qR (pm_sI σ a k x) = qR σ := rfl
theorem qT_sI {σ : pm_S} {a k : Nat} {x : Int32} : qT (pm_sI σ a k x) = qT σ := rfl
theorem qL_sI {σ : pm_S} {a k : Nat} {x : Int32} : qL (pm_sI σ a k x) = qL σ := rfl
theorem qN_sI {σ : pm_S} {a k : Nat} {x : Int32} : qN (pm_sI σ a k x) = qN σ := rfl
theorem qR_sR {σ : pm_S} {a k x : Nat} (b j : Nat) : qR (pm_sR σ a k x) b j = if b = a ∧ j = k then x else qR σ b j := rfl
theorem qR_sR_nc {σ : pm_S} {a k x : Nat} {b j : Nat} (h : b ≠ a) : qR (pm_sR σ a k x) b j = qR σ b j := if_neg (fun z => h z.1)
theorem qR_sR_eq {σ : pm_S} {a k x : Nat} : qR (pm_sR σ a k x) a k = x := if_pos ⟨rfl, rfl⟩
theorem qI_sR {σ : pm_S} {a k x : Nat} : qI (pm_sR σ a k x) = qI σ := rfl
theorem qT_sR {σ : pm_S} {a k x : Nat} : qT (pm_sR σ a k x) = qT σ := rfl
theorem qL_sR {σ : pm_S} {a k x : Nat} : qL (pm_sR σ a k x) = qL σ := rfl
theorem qN_sR {σ : pm_S} {a k x : Nat} : qN (pm_sR σ a k x) = qN σ := rfl
theorem PE.mono {d d' al al' : Nat} {M : pm_M} {av : List Value} {σ τ : pm_S} {r : Option Value} (h : PE d al M av σ r τ) (hd : d ≤ d') (ha : al ≤ al') : PE d' al' M av σ r τ := PW.fr hd (PW.mono ha h)
theorem PE.eq {d al : Nat} {M : pm_M} {av : List Value} {σ τ τ' : pm_S} {r r' : Option Value} (h : PE d al M av σ r τ) (hr : r = r') (ht : τ = τ') : PE d al M av σ r' τ' := by subst hr; subst ht; exact h
