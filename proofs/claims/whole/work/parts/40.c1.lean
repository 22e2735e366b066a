/-! ===== the class: acts and things ===== -/
/-- a new act's fields -/
def c_act (σ : pm_S) (a b : Nat) (day owner keeper turn there : Int32) : pm_S := pm_sI (pm_sI (pm_sI (pm_sI (pm_sI (pm_sR σ a 0 b) a 1 day) a 2 owner) a 3 keeper) a 4 turn) a 5 there
theorem t_act1 {d al a : Nat} {σ : pm_S} (hd : 1 ≤ d) (ha : pm_is σ a 0) (day house : Int32) : PE d al MX0_init [.ref a, .int day, .int house] σ none (c_act σ a 0 day house house 0 1) := by
  show PW _ _ _ _ _ _ _ _
  have ha0 : 0 < a := ha.1
  refine pw_aload_n dX0_init_0 rfl ?_
  refine pw_obj dX0_init_1 mlX0_1 imObj coObj (by omega) (by omega) (Nat.le_of_ble_eq_true rfl) ?_
  refine pw_aload_n dX0_init_4 rfl ?_
  refine pw_null dX0_init_5 ?_
  refine pw_putR dX0_init_6 flX0_7 ⟨_, rfl, Or.inr ⟨rfl, rfl, rfl⟩⟩ rfl ha ?_
  refine pw_aload_n dX0_init_9 rfl ?_
  refine pw_iload_n dX0_init_10 rfl ?_
  refine pw_putI dX0_init_11 flX0_13 ⟨_, rfl, Or.inr ⟨rfl, rfl, rfl⟩⟩ rfl ha ?_
  refine pw_aload_n dX0_init_14 rfl ?_
  refine pw_iload_n dX0_init_15 rfl ?_
  refine pw_putI dX0_init_16 flX0_17 ⟨_, rfl, Or.inr ⟨rfl, rfl, rfl⟩⟩ rfl ha ?_
  refine pw_aload_n dX0_init_19 rfl ?_
  refine pw_iload_n dX0_init_20 rfl ?_
  refine pw_putI dX0_init_21 flX0_20 ⟨_, rfl, Or.inr ⟨rfl, rfl, rfl⟩⟩ rfl ha ?_
  refine pw_aload_n dX0_init_24 rfl ?_
  refine pw_iconst (v := 0) dX0_init_25 (by decide) ?_
  refine pw_putI dX0_init_26 flX0_23 ⟨_, rfl, Or.inr ⟨rfl, rfl, rfl⟩⟩ rfl ha ?_
  refine pw_aload_n dX0_init_29 rfl ?_
  refine pw_iconst (v := 1) dX0_init_30 (by decide) ?_
  refine pw_putZ dX0_init_31 flX0_26 ⟨_, rfl, Or.inr ⟨rfl, rfl, rfl⟩⟩ rfl (by first | exact Or.inl rfl | exact Or.inr rfl) ha ?_
  refine pw_vret dX0_init_34 rfl ?_
  exact ⟨rfl, rfl⟩
theorem t_act2 {d al a b : Nat} {σ : pm_S} (hd : 1 ≤ d) (ha : pm_is σ a 0) (day owner keeper turn there : Int32) (ht : there = 0 ∨ there = 1) : PE d al MX0_init_ [.ref a, .ref b, .int day, .int owner, .int keeper, .int turn, .int there] σ none (c_act σ a b day owner keeper turn there) := by
  show PW _ _ _ _ _ _ _ _
  have ha0 : 0 < a := ha.1
  refine pw_aload_n dX0_init__0 rfl ?_
  refine pw_obj dX0_init__1 mlX0_1 imObj coObj (by omega) (by omega) (Nat.le_of_ble_eq_true rfl) ?_
  refine pw_aload_n dX0_init__4 rfl ?_
  refine pw_aload_n dX0_init__5 rfl ?_
  refine pw_putR dX0_init__6 flX0_7 ⟨_, rfl, Or.inr ⟨rfl, rfl, rfl⟩⟩ rfl ha ?_
  refine pw_aload_n dX0_init__9 rfl ?_
  refine pw_iload_n dX0_init__10 rfl ?_
  refine pw_putI dX0_init__11 flX0_13 ⟨_, rfl, Or.inr ⟨rfl, rfl, rfl⟩⟩ rfl ha ?_
  refine pw_aload_n dX0_init__14 rfl ?_
  refine pw_iload_n dX0_init__15 rfl ?_
  refine pw_putI dX0_init__16 flX0_17 ⟨_, rfl, Or.inr ⟨rfl, rfl, rfl⟩⟩ rfl ha ?_
  refine pw_aload_n dX0_init__19 rfl ?_
  refine pw_iload dX0_init__20 rfl ?_
  refine pw_putI dX0_init__22 flX0_20 ⟨_, rfl, Or.inr ⟨rfl, rfl, rfl⟩⟩ rfl ha ?_
  refine pw_aload_n dX0_init__25 rfl ?_
  refine pw_iload dX0_init__26 rfl ?_
  refine pw_putI dX0_init__28 flX0_23 ⟨_, rfl, Or.inr ⟨rfl, rfl, rfl⟩⟩ rfl ha ?_
  refine pw_aload_n dX0_init__31 rfl ?_
  refine pw_iload dX0_init__32 rfl ?_
  refine pw_putZ dX0_init__34 flX0_26 ⟨_, rfl, Or.inr ⟨rfl, rfl, rfl⟩⟩ rfl ht ha ?_
  refine pw_vret dX0_init__37 rfl ?_
  exact ⟨rfl, rfl⟩
/-- a new thing's fields -/
def c_thing (σ : pm_S) (a l : Nat) (number kind rank tone seasons came copyOf root : Int32) : pm_S := pm_sR (pm_sI (pm_sI (pm_sI (pm_sI (pm_sI (pm_sI (pm_sI (pm_sI σ a 0 number) a 1 kind) a 2 rank) a 3 tone) a 4 seasons) a 5 came) a 6 copyOf) a 7 root) a 8 l
theorem t_thing1 {d al a l : Nat} {σ : pm_S} (hd : 1 ≤ d) (ha : pm_is σ a 9) (hl : pm_is σ l 0) (hal : a ≠ l) (number kind rank tone seasons : Int32) : PE d al MX9_init [.ref a, .int number, .int kind, .int rank, .int tone, .int seasons, .ref l] σ none (c_thing σ a l number kind rank tone seasons (qI σ l 1) (-1) number) := by
  show PW _ _ _ _ _ _ _ _
  have ha0 : 0 < a := ha.1
  refine pw_aload_n dX9_init_0 rfl ?_
  refine pw_obj dX9_init_1 mlX9_3 imObj coObj (by omega) (by omega) (Nat.le_of_ble_eq_true rfl) ?_
  refine pw_aload_n dX9_init_4 rfl ?_
  refine pw_iload_n dX9_init_5 rfl ?_
  refine pw_putI dX9_init_6 flX9_9 ⟨_, rfl, Or.inr ⟨rfl, rfl, rfl⟩⟩ rfl ha ?_
  refine pw_aload_n dX9_init_9 rfl ?_
  refine pw_iload_n dX9_init_10 rfl ?_
  refine pw_putI dX9_init_11 flX9_15 ⟨_, rfl, Or.inr ⟨rfl, rfl, rfl⟩⟩ rfl ha ?_
  refine pw_aload_n dX9_init_14 rfl ?_
  refine pw_iload_n dX9_init_15 rfl ?_
  refine pw_putI dX9_init_16 flX9_18 ⟨_, rfl, Or.inr ⟨rfl, rfl, rfl⟩⟩ rfl ha ?_
  refine pw_aload_n dX9_init_19 rfl ?_
  refine pw_iload dX9_init_20 rfl ?_
  refine pw_putI dX9_init_22 flX9_21 ⟨_, rfl, Or.inr ⟨rfl, rfl, rfl⟩⟩ rfl ha ?_
  refine pw_aload_n dX9_init_25 rfl ?_
  refine pw_iload dX9_init_26 rfl ?_
  refine pw_putI dX9_init_28 flX9_24 ⟨_, rfl, Or.inr ⟨rfl, rfl, rfl⟩⟩ rfl ha ?_
  refine pw_aload_n dX9_init_31 rfl ?_
  refine pw_aload dX9_init_32 rfl ?_
  refine pw_getI dX9_init_34 flX9_27 rfl hl ?_
  rw [qI_sI_nc (Ne.symm hal), qI_sI_nc (Ne.symm hal), qI_sI_nc (Ne.symm hal), qI_sI_nc (Ne.symm hal), qI_sI_nc (Ne.symm hal)]
  refine pw_putI dX9_init_37 flX9_32 ⟨_, rfl, Or.inr ⟨rfl, rfl, rfl⟩⟩ rfl ha ?_
  refine pw_aload_n dX9_init_40 rfl ?_
  refine pw_iconst (v := (-1)) dX9_init_41 (by decide) ?_
  refine pw_putI dX9_init_42 flX9_35 ⟨_, rfl, Or.inr ⟨rfl, rfl, rfl⟩⟩ rfl ha ?_
  refine pw_aload_n dX9_init_45 rfl ?_
  refine pw_iload_n dX9_init_46 rfl ?_
  refine pw_putI dX9_init_47 flX9_38 ⟨_, rfl, Or.inr ⟨rfl, rfl, rfl⟩⟩ rfl ha ?_
  refine pw_aload_n dX9_init_50 rfl ?_
  refine pw_aload dX9_init_51 rfl ?_
  refine pw_putR dX9_init_53 flX9_41 ⟨_, rfl, Or.inl rfl⟩ rfl ha ?_
  refine pw_vret dX9_init_56 rfl ?_
  exact ⟨rfl, rfl⟩
theorem t_thing2 {d al a l m : Nat} {σ : pm_S} (hd : 1 ≤ d) (ha : pm_is σ a 9) (hl : pm_is σ l 0) (hm : pm_is σ m 9) (hal : a ≠ l) (ham : a ≠ m) (number rank : Int32) : PE d al MX9_init_ [.ref a, .int number, .ref m, .int rank, .ref l] σ none (c_thing σ a l number (qI σ m 1) rank (qI σ m 3) (qI σ m 4) (qI σ l 1) (qI σ m 0) (qI σ m 7)) := by
  show PW _ _ _ _ _ _ _ _
  have ha0 : 0 < a := ha.1
  refine pw_aload_n dX9_init__0 rfl ?_
  refine pw_obj dX9_init__1 mlX9_3 imObj coObj (by omega) (by omega) (Nat.le_of_ble_eq_true rfl) ?_
  refine pw_aload_n dX9_init__4 rfl ?_
  refine pw_iload_n dX9_init__5 rfl ?_
  refine pw_putI dX9_init__6 flX9_9 ⟨_, rfl, Or.inr ⟨rfl, rfl, rfl⟩⟩ rfl ha ?_
  refine pw_aload_n dX9_init__9 rfl ?_
  refine pw_aload_n dX9_init__10 rfl ?_
  refine pw_getI dX9_init__11 flX9_15 rfl hm ?_
  rw [qI_sI_nc (Ne.symm ham)]
  refine pw_putI dX9_init__14 flX9_15 ⟨_, rfl, Or.inr ⟨rfl, rfl, rfl⟩⟩ rfl ha ?_
  refine pw_aload_n dX9_init__17 rfl ?_
  refine pw_iload_n dX9_init__18 rfl ?_
  refine pw_putI dX9_init__19 flX9_18 ⟨_, rfl, Or.inr ⟨rfl, rfl, rfl⟩⟩ rfl ha ?_
  refine pw_aload_n dX9_init__22 rfl ?_
  refine pw_aload_n dX9_init__23 rfl ?_
  refine pw_getI dX9_init__24 flX9_21 rfl hm ?_
  rw [qI_sI_nc (Ne.symm ham), qI_sI_nc (Ne.symm ham), qI_sI_nc (Ne.symm ham)]
  refine pw_putI dX9_init__27 flX9_21 ⟨_, rfl, Or.inr ⟨rfl, rfl, rfl⟩⟩ rfl ha ?_
  refine pw_aload_n dX9_init__30 rfl ?_
  refine pw_aload_n dX9_init__31 rfl ?_
  refine pw_getI dX9_init__32 flX9_24 rfl hm ?_
  rw [qI_sI_nc (Ne.symm ham), qI_sI_nc (Ne.symm ham), qI_sI_nc (Ne.symm ham), qI_sI_nc (Ne.symm ham)]
  refine pw_putI dX9_init__35 flX9_24 ⟨_, rfl, Or.inr ⟨rfl, rfl, rfl⟩⟩ rfl ha ?_
  refine pw_aload_n dX9_init__38 rfl ?_
  refine pw_aload dX9_init__39 rfl ?_
  refine pw_getI dX9_init__41 flX9_27 rfl hl ?_
  rw [qI_sI_nc (Ne.symm hal), qI_sI_nc (Ne.symm hal), qI_sI_nc (Ne.symm hal), qI_sI_nc (Ne.symm hal), qI_sI_nc (Ne.symm hal)]
  refine pw_putI dX9_init__44 flX9_32 ⟨_, rfl, Or.inr ⟨rfl, rfl, rfl⟩⟩ rfl ha ?_
  refine pw_aload_n dX9_init__47 rfl ?_
  refine pw_aload_n dX9_init__48 rfl ?_
  refine pw_getI dX9_init__49 flX9_9 rfl hm ?_
  rw [qI_sI_nc (Ne.symm ham), qI_sI_nc (Ne.symm ham), qI_sI_nc (Ne.symm ham), qI_sI_nc (Ne.symm ham), qI_sI_nc (Ne.symm ham), qI_sI_nc (Ne.symm ham)]
  refine pw_putI dX9_init__52 flX9_35 ⟨_, rfl, Or.inr ⟨rfl, rfl, rfl⟩⟩ rfl ha ?_
  refine pw_aload_n dX9_init__55 rfl ?_
  refine pw_aload_n dX9_init__56 rfl ?_
  refine pw_getI dX9_init__57 flX9_38 rfl hm ?_
  rw [qI_sI_nc (Ne.symm ham), qI_sI_nc (Ne.symm ham), qI_sI_nc (Ne.symm ham), qI_sI_nc (Ne.symm ham), qI_sI_nc (Ne.symm ham), qI_sI_nc (Ne.symm ham), qI_sI_nc (Ne.symm ham)]
  refine pw_putI dX9_init__60 flX9_38 ⟨_, rfl, Or.inr ⟨rfl, rfl, rfl⟩⟩ rfl ha ?_
  refine pw_aload_n dX9_init__63 rfl ?_
  refine pw_aload dX9_init__64 rfl ?_
  refine pw_putR dX9_init__66 flX9_41 ⟨_, rfl, Or.inl rfl⟩ rfl ha ?_
  refine pw_vret dX9_init__69 rfl ?_
  exact ⟨rfl, rfl⟩
theorem t_owner {d al a : Nat} {σ : pm_S} (ha : pm_is σ a 9) (hl : pm_is σ (qR σ a 8) 0) : PE d al MX9_owner [.ref a] σ (some (.int (qI σ (qR σ a 8) 2))) σ := by
  show PW _ _ _ _ _ _ _ _
  refine pw_aload_n dX9_owner_0 rfl ?_
  refine pw_getR dX9_owner_1 flX9_41 rfl ha ?_
  refine pw_getI dX9_owner_4 flX9_45 rfl hl ?_
  refine pw_iret dX9_owner_7 rfl rfl ?_
  exact ⟨rfl, rfl⟩
theorem t_keeper {d al a : Nat} {σ : pm_S} (ha : pm_is σ a 9) (hl : pm_is σ (qR σ a 8) 0) : PE d al MX9_keeper [.ref a] σ (some (.int (qI σ (qR σ a 8) 3))) σ := by
  show PW _ _ _ _ _ _ _ _
  refine pw_aload_n dX9_keeper_0 rfl ?_
  refine pw_getR dX9_keeper_1 flX9_41 rfl ha ?_
  refine pw_getI dX9_keeper_4 flX9_48 rfl hl ?_
  refine pw_iret dX9_keeper_7 rfl rfl ?_
  exact ⟨rfl, rfl⟩
theorem nar_01 {x : Int32} (h : x = 0 ∨ x = 1) : narrow .boolean (.int x) = .int x := by rcases h with rfl | rfl <;> rfl
theorem t_isThere {d al a : Nat} {σ : pm_S} (ha : pm_is σ a 9) (hl : pm_is σ (qR σ a 8) 0) (ht : qI σ (qR σ a 8) 5 = 0 ∨ qI σ (qR σ a 8) 5 = 1) : PE d al MX9_isThere [.ref a] σ (some (.int (qI σ (qR σ a 8) 5))) σ := by
  show PW _ _ _ _ _ _ _ _
  refine pw_aload_n dX9_isThere_0 rfl ?_
  refine pw_getR dX9_isThere_1 flX9_41 rfl ha ?_
  refine pw_getI dX9_isThere_4 flX9_51 rfl hl ?_
  refine pw_iret dX9_isThere_7 rfl (nar_01 ht) ?_
  exact ⟨rfl, rfl⟩
theorem t_isLent {d al a : Nat} {σ : pm_S} (ha : pm_is σ a 9) (hl : pm_is σ (qR σ a 8) 0) : PE d al MX9_isLent [.ref a] σ (some (.int (bI (qI σ (qR σ a 8) 3 ≠ qI σ (qR σ a 8) 2)))) σ := by
  show PW _ _ _ _ _ _ _ _
  refine pw_aload_n dX9_isLent_0 rfl ?_
  refine pw_getR dX9_isLent_1 flX9_41 rfl ha ?_
  refine pw_getI dX9_isLent_4 flX9_48 rfl hl ?_
  refine pw_aload_n dX9_isLent_7 rfl ?_
  refine pw_getR dX9_isLent_8 flX9_41 rfl ha ?_
  refine pw_getI dX9_isLent_11 flX9_45 rfl hl ?_
  refine pw_icmp_eq (tgt := 21) dX9_isLent_14 (by decide) (fun h14 => ?_) (fun h14 => ?_)
  · refine pw_iconst (v := 0) dX9_isLent_21 (by decide) ?_
    refine pw_iret dX9_isLent_22 rfl (by first | rfl | exact bI_nar) ?_
    first | exact ⟨congrArg (fun v => some (Value.int v)) (bI_t h14).symm, rfl⟩ | exact ⟨congrArg (fun v => some (Value.int v)) (bI_f (fun z => z h14)).symm, rfl⟩
  · refine pw_iconst (v := 1) dX9_isLent_17 (by decide) ?_
    refine pw_goto (tgt := 22) dX9_isLent_18 (by decide) ?_
    refine pw_iret dX9_isLent_22 rfl (by first | rfl | exact bI_nar) ?_
    first | exact ⟨congrArg (fun v => some (Value.int v)) (bI_t h14).symm, rfl⟩ | exact ⟨congrArg (fun v => some (Value.int v)) (bI_f (fun z => z h14)).symm, rfl⟩
theorem t_suits {d al a : Nat} {σ : pm_S} (ha : pm_is σ a 9) (s : Int32) : PE d al MX9_suits [.ref a, .int s] σ (some (.int (bI (sb (qI σ a 4) s ≠ 0)))) σ := by
  show PW _ _ _ _ _ _ _ _
  refine pw_aload_n dX9_suits_0 rfl ?_
  refine pw_getI dX9_suits_1 flX9_24 rfl ha ?_
  refine pw_iload_n dX9_suits_4 rfl ?_
  refine pw_ishr dX9_suits_5 ?_
  refine pw_iconst (v := 1) dX9_suits_6 (by decide) ?_
  refine pw_iand dX9_suits_7 ?_
  refine pw_if_eq (tgt := 15) dX9_suits_8 (by decide) (fun h8 => ?_) (fun h8 => ?_)
  · refine pw_iconst (v := 0) dX9_suits_15 (by decide) ?_
    refine pw_iret dX9_suits_16 rfl (by first | rfl | exact bI_nar) ?_
    first | exact ⟨congrArg (fun v => some (Value.int v)) (bI_t h8).symm, rfl⟩ | exact ⟨congrArg (fun v => some (Value.int v)) (bI_f (fun z => z h8)).symm, rfl⟩
  · refine pw_iconst (v := 1) dX9_suits_11 (by decide) ?_
    refine pw_goto (tgt := 16) dX9_suits_12 (by decide) ?_
    refine pw_iret dX9_suits_16 rfl (by first | rfl | exact bI_nar) ?_
    first | exact ⟨congrArg (fun v => some (Value.int v)) (bI_t h8).symm, rfl⟩ | exact ⟨congrArg (fun v => some (Value.int v)) (bI_f (fun z => z h8)).symm, rfl⟩
theorem t_countOwners {d al a : Nat} {σ : pm_S} (ha : pm_is σ a 9) (hl : pm_is σ (qR σ a 8) 0) : PE d al MX9_countOwners [.ref a] σ (some (.int (qI σ (qR σ a 8) 4 + 1))) σ := by
  show PW _ _ _ _ _ _ _ _
  refine pw_aload_n dX9_countOwners_0 rfl ?_
  refine pw_getR dX9_countOwners_1 flX9_41 rfl ha ?_
  refine pw_getI dX9_countOwners_4 flX9_55 rfl hl ?_
  refine pw_iconst (v := 1) dX9_countOwners_7 (by decide) ?_
  refine pw_iadd dX9_countOwners_8 ?_
  refine pw_iret dX9_countOwners_9 rfl rfl ?_
  exact ⟨rfl, rfl⟩
/-! a new act in front of the others -/
theorem is_nw_old {σ : pm_S} {a t t' n : Nat} (h : pm_is σ a t) : pm_is (pm_nw σ t' n) a t := ⟨h.1, by have := h.2.1; show a < qN σ + 1; omega, by rw [qT_nw_ne (by have := h.2.1; omega)]; exact h.2.2⟩
theorem is_nw_new {σ : pm_S} {t n : Nat} (h : 0 < qN σ) : pm_is (pm_nw σ t n) (qN σ) t := ⟨h, by show qN σ < qN σ + 1; omega, qT_nw_eq⟩
theorem qI_nw_ne {σ : pm_S} {t n b : Nat} (h : b ≠ qN σ) (j : Nat) : qI (pm_nw σ t n) b j = qI σ b j := if_neg h
theorem qR_nw_ne {σ : pm_S} {t n b : Nat} (h : b ≠ qN σ) (j : Nat) : qR (pm_nw σ t n) b j = qR σ b j := if_neg h
/-- thing a gets a new act -/
def c_push (σ : pm_S) (a : Nat) (day owner keeper turn there : Int32) : pm_S := pm_sR (c_act (pm_nw σ 0 0) (qN σ) (qR σ a 8) day owner keeper turn there) a 8 (qN σ)
theorem t_goTo {d al a : Nat} {σ : pm_S} (hd : 2 ≤ d) (h6 : 6 ≤ qN σ) (ha : pm_is σ a 9) (hl : pm_is σ (qR σ a 8) 0) (day house : Int32) : PE d (al + 1) MX9_goTo [.ref a, .int day, .int house] σ none (c_push σ a day house house (qI σ (qR σ a 8) 4 + 1) 1) := by
  show PW _ _ _ _ _ _ _ _
  have hna : a ≠ qN σ := by have := ha.2.1; omega
  have hnl : qR σ a 8 ≠ qN σ := by have := hl.2.1; omega
  have ha' : pm_is (pm_nw σ 0 0) a 9 := is_nw_old ha
  have hl' : pm_is (pm_nw σ 0 0) (qR σ a 8) 0 := is_nw_old hl
  have hr' : qR (pm_nw σ 0 0) a 8 = qR σ a 8 := qR_nw_ne hna 8
  refine pw_aload_n dX9_goTo_0 rfl ?_
  refine pw_new dX9_goTo_1 nlX9_28 h6 ?_
  refine pw_dup dX9_goTo_4 rfl ?_
  refine pw_aload_n dX9_goTo_5 rfl ?_
  refine pw_getF dX9_goTo_6 flX9_41 rfl ha' hr' ?_
  refine pw_iload_n dX9_goTo_9 rfl ?_
  refine pw_iload_n dX9_goTo_10 rfl ?_
  refine pw_iload_n dX9_goTo_11 rfl ?_
  refine pw_aload_n dX9_goTo_12 rfl ?_
  refine pw_getF dX9_goTo_13 flX9_41 rfl ha' hr' ?_
  refine pw_getI dX9_goTo_16 flX9_55 rfl hl' ?_
  rw [qI_nw_ne hnl]
  refine pw_iconst (v := 1) dX9_goTo_19 (by decide) ?_
  refine pw_iadd dX9_goTo_20 ?_
  refine pw_iconst (v := 1) dX9_goTo_21 (by decide) ?_
  refine pw_cI6 (d1 := d - 1) (a1 := 0) (a2 := al) dX9_goTo_22 mtX0_init_ rfl imX0_init_ rfl mlX9_58 (Nat.le_of_ble_eq_true rfl) (Nat.le_of_ble_eq_true rfl) (by omega) (by omega) (by omega) (t_act2 (by omega) (is_nw_new (by omega)) _ _ _ _ _ (Or.inr rfl)) ?_
  rintro r_ τ_ ⟨hr_, ht_⟩; subst r_; subst τ_
  refine pw_putR dX9_goTo_25 flX9_41 ⟨_, rfl, Or.inl rfl⟩ rfl ha' ?_
  refine pw_vret dX9_goTo_28 rfl ?_
  exact ⟨rfl, rfl⟩
theorem t_stayWith {d al a : Nat} {σ : pm_S} (hd : 2 ≤ d) (h6 : 6 ≤ qN σ) (ha : pm_is σ a 9) (hl : pm_is σ (qR σ a 8) 0) (day house : Int32) : PE d (al + 1) MX9_stayWith [.ref a, .int day, .int house] σ none (c_push σ a day (qI σ (qR σ a 8) 2) house (qI σ (qR σ a 8) 4) 1) := by
  show PW _ _ _ _ _ _ _ _
  have hna : a ≠ qN σ := by have := ha.2.1; omega
  have hnl : qR σ a 8 ≠ qN σ := by have := hl.2.1; omega
  have ha' : pm_is (pm_nw σ 0 0) a 9 := is_nw_old ha
  have hl' : pm_is (pm_nw σ 0 0) (qR σ a 8) 0 := is_nw_old hl
  have hr' : qR (pm_nw σ 0 0) a 8 = qR σ a 8 := qR_nw_ne hna 8
  refine pw_aload_n dX9_stayWith_0 rfl ?_
  refine pw_new dX9_stayWith_1 nlX9_28 h6 ?_
  refine pw_dup dX9_stayWith_4 rfl ?_
  refine pw_aload_n dX9_stayWith_5 rfl ?_
  refine pw_getF dX9_stayWith_6 flX9_41 rfl ha' hr' ?_
  refine pw_iload_n dX9_stayWith_9 rfl ?_
  refine pw_aload_n dX9_stayWith_10 rfl ?_
  refine pw_getF dX9_stayWith_11 flX9_41 rfl ha' hr' ?_
  refine pw_getI dX9_stayWith_14 flX9_45 rfl hl' ?_
  rw [qI_nw_ne hnl]
  refine pw_iload_n dX9_stayWith_17 rfl ?_
  refine pw_aload_n dX9_stayWith_18 rfl ?_
  refine pw_getF dX9_stayWith_19 flX9_41 rfl ha' hr' ?_
  refine pw_getI dX9_stayWith_22 flX9_55 rfl hl' ?_
  rw [qI_nw_ne hnl]
  refine pw_iconst (v := 1) dX9_stayWith_25 (by decide) ?_
  refine pw_cI6 (d1 := d - 1) (a1 := 0) (a2 := al) dX9_stayWith_26 mtX0_init_ rfl imX0_init_ rfl mlX9_58 (Nat.le_of_ble_eq_true rfl) (Nat.le_of_ble_eq_true rfl) (by omega) (by omega) (by omega) (t_act2 (by omega) (is_nw_new (by omega)) _ _ _ _ _ (Or.inr rfl)) ?_
  rintro r_ τ_ ⟨hr_, ht_⟩; subst r_; subst τ_
  refine pw_putR dX9_stayWith_29 flX9_41 ⟨_, rfl, Or.inl rfl⟩ rfl ha' ?_
  refine pw_vret dX9_stayWith_32 rfl ?_
  exact ⟨rfl, rfl⟩
theorem t_vanish {d al a : Nat} {σ : pm_S} (hd : 2 ≤ d) (h6 : 6 ≤ qN σ) (ha : pm_is σ a 9) (hl : pm_is σ (qR σ a 8) 0) (day : Int32) : PE d (al + 1) MX9_vanish [.ref a, .int day] σ none (c_push σ a day (qI σ (qR σ a 8) 2) (qI σ (qR σ a 8) 3) (qI σ (qR σ a 8) 4) 0) := by
  show PW _ _ _ _ _ _ _ _
  have hna : a ≠ qN σ := by have := ha.2.1; omega
  have hnl : qR σ a 8 ≠ qN σ := by have := hl.2.1; omega
  have ha' : pm_is (pm_nw σ 0 0) a 9 := is_nw_old ha
  have hl' : pm_is (pm_nw σ 0 0) (qR σ a 8) 0 := is_nw_old hl
  have hr' : qR (pm_nw σ 0 0) a 8 = qR σ a 8 := qR_nw_ne hna 8
  refine pw_aload_n dX9_vanish_0 rfl ?_
  refine pw_new dX9_vanish_1 nlX9_28 h6 ?_
  refine pw_dup dX9_vanish_4 rfl ?_
  refine pw_aload_n dX9_vanish_5 rfl ?_
  refine pw_getF dX9_vanish_6 flX9_41 rfl ha' hr' ?_
  refine pw_iload_n dX9_vanish_9 rfl ?_
  refine pw_aload_n dX9_vanish_10 rfl ?_
  refine pw_getF dX9_vanish_11 flX9_41 rfl ha' hr' ?_
  refine pw_getI dX9_vanish_14 flX9_45 rfl hl' ?_
  rw [qI_nw_ne hnl]
  refine pw_aload_n dX9_vanish_17 rfl ?_
  refine pw_getF dX9_vanish_18 flX9_41 rfl ha' hr' ?_
  refine pw_getI dX9_vanish_21 flX9_48 rfl hl' ?_
  rw [qI_nw_ne hnl]
  refine pw_aload_n dX9_vanish_24 rfl ?_
  refine pw_getF dX9_vanish_25 flX9_41 rfl ha' hr' ?_
  refine pw_getI dX9_vanish_28 flX9_55 rfl hl' ?_
  rw [qI_nw_ne hnl]
  refine pw_iconst (v := 0) dX9_vanish_31 (by decide) ?_
  refine pw_cI6 (d1 := d - 1) (a1 := 0) (a2 := al) dX9_vanish_32 mtX0_init_ rfl imX0_init_ rfl mlX9_58 (Nat.le_of_ble_eq_true rfl) (Nat.le_of_ble_eq_true rfl) (by omega) (by omega) (by omega) (t_act2 (by omega) (is_nw_new (by omega)) _ _ _ _ _ (Or.inl rfl)) ?_
  rintro r_ τ_ ⟨hr_, ht_⟩; subst r_; subst τ_
  refine pw_putR dX9_vanish_35 flX9_41 ⟨_, rfl, Or.inl rfl⟩ rfl ha' ?_
  refine pw_vret dX9_vanish_38 rfl ?_
  exact ⟨rfl, rfl⟩
/-! the chain of acts: day, owner, keeper, turn, there -/
abbrev c_A : Type := Int32 × Int32 × Int32 × Int32 × Int32
def Ch (σ : pm_S) : Nat → List c_A → Prop
  | a, [] => a = 0
  | a, x :: xs => (pm_is σ a 0 ∧ 68 ≤ a) ∧ (qI σ a 1 = x.1 ∧ qI σ a 2 = x.2.1 ∧ qI σ a 3 = x.2.2.1 ∧ qI σ a 4 = x.2.2.2.1 ∧ qI σ a 5 = x.2.2.2.2) ∧ Ch σ (qR σ a 0) xs
theorem t_upTo_lp {d al : Nat} {σ : pm_S} (t : Nat) (day : Int32) : ∀ (xs : List c_A) (a : Nat), Ch σ a xs → PW d al MX9_latestUpTo 5 [.ref t, .int day, .ref a] [] σ (fun r τ => (∃ b, r = some (.ref b) ∧ Ch σ b (xs.dropWhile (fun x => decide (¬ x.1 ≤ day)))) ∧ τ = σ) := by
  intro xs
  induction xs with
  | nil =>
    intro a ha
    have ha0 : a = 0 := ha
    refine pw_aload_n dX9_latestUpTo_5 rfl ?_
    refine pw_ifnull (tgt := 27) dX9_latestUpTo_6 (by decide) (fun h6 => ?_) (fun h6 => ?_)
    · refine pw_null dX9_latestUpTo_27 ?_
      refine pw_aret dX9_latestUpTo_28 rfl (by first | exact Or.inl ⟨_, rfl⟩ | exact Or.inr ⟨_, rfl⟩) ?_
      exact ⟨⟨0, rfl, rfl⟩, rfl⟩
    · omega
  | cons x xs ih =>
    intro a ha
    obtain ⟨⟨ha1, ha2⟩, ⟨f1, -⟩, hc⟩ := id ha
    have hh := ih (qR σ a 0) hc
    refine pw_aload_n dX9_latestUpTo_5 rfl ?_
    refine pw_ifnull (tgt := 27) dX9_latestUpTo_6 (by decide) (fun h6 => ?_) (fun h6 => ?_)
    · have := ha1.1
      omega
    · refine pw_aload_n dX9_latestUpTo_9 rfl ?_
      refine pw_getI dX9_latestUpTo_10 flX9_27 rfl ha1 ?_
      refine pw_iload_n dX9_latestUpTo_13 rfl ?_
      refine pw_icmp_gt (tgt := 19) dX9_latestUpTo_14 (by decide) (fun h14 => ?_) (fun h14 => ?_)
      · refine pw_aload_n dX9_latestUpTo_19 rfl ?_
        refine pw_getR dX9_latestUpTo_20 flX9_61 rfl ha1 ?_
        refine pw_astore_n dX9_latestUpTo_23 (Nat.le_of_ble_eq_true rfl) (Nat.le_of_ble_eq_true rfl) rfl ?_
        refine pw_goto (tgt := 5) dX9_latestUpTo_24 (by decide) ?_
        rw [List.dropWhile_cons, if_pos]
        · exact hh
        · rw [decide_eq_true_eq, ← f1]
          exact Int32.not_le.mpr h14
      · refine pw_aload_n dX9_latestUpTo_17 rfl ?_
        refine pw_aret dX9_latestUpTo_18 rfl (by first | exact Or.inl ⟨_, rfl⟩ | exact Or.inr ⟨_, rfl⟩) ?_
        refine ⟨⟨a, rfl, ?_⟩, rfl⟩
        rw [List.dropWhile_cons, if_neg]
        · exact ha
        · rw [decide_eq_true_eq, Decidable.not_not, ← f1]
          exact Int32.not_lt.mp h14
theorem t_upTo {d al a : Nat} {σ : pm_S} {xs : List c_A} (ha : pm_is σ a 9) (hc : Ch σ (qR σ a 8) xs) (day : Int32) : PM d al MX9_latestUpTo [.ref a, .int day] σ (fun r τ => (∃ b, r = some (.ref b) ∧ Ch σ b (xs.dropWhile (fun x => decide (¬ x.1 ≤ day)))) ∧ τ = σ) := by
  show PW _ _ _ _ _ _ _ _
  refine pw_aload_n dX9_latestUpTo_0 rfl ?_
  refine pw_getR dX9_latestUpTo_1 flX9_41 rfl ha ?_
  refine pw_astore_n dX9_latestUpTo_4 (Nat.le_of_ble_eq_true rfl) (Nat.le_of_ble_eq_true rfl) rfl ?_
  exact t_upTo_lp a day xs (qR σ a 8) hc
def c_oa (t : Int32) : List c_A → Int32
  | [] => -1
  | x :: xs => if x.2.2.2.1 = t then x.2.1 else c_oa t xs
theorem t_ownerAt_lp {d al : Nat} {σ : pm_S} (t : Nat) (w : Int32) : ∀ (xs : List c_A) (a : Nat), Ch σ a xs → PW d al MX9_ownerAt 5 [.ref t, .int w, .ref a] [] σ (fun r τ => r = some (.int (c_oa w xs)) ∧ τ = σ) := by
  intro xs
  induction xs with
  | nil =>
    intro a ha
    have ha0 : a = 0 := ha
    refine pw_aload_n dX9_ownerAt_5 rfl ?_
    refine pw_ifnull (tgt := 30) dX9_ownerAt_6 (by decide) (fun h6 => ?_) (fun h6 => ?_)
    · refine pw_iconst (v := (-1)) dX9_ownerAt_30 (by decide) ?_
      refine pw_iret dX9_ownerAt_31 rfl rfl ?_
      exact ⟨rfl, rfl⟩
    · omega
  | cons x xs ih =>
    intro a ha
    obtain ⟨⟨ha1, ha2⟩, ⟨-, f2, -, f4, -⟩, hc⟩ := id ha
    have hh := ih (qR σ a 0) hc
    have hu : c_oa w (x :: xs) = if x.2.2.2.1 = w then x.2.1 else c_oa w xs := rfl
    rw [hu]
    refine pw_aload_n dX9_ownerAt_5 rfl ?_
    refine pw_ifnull (tgt := 30) dX9_ownerAt_6 (by decide) (fun h6 => ?_) (fun h6 => ?_)
    · have := ha1.1
      omega
    · refine pw_aload_n dX9_ownerAt_9 rfl ?_
      refine pw_getI dX9_ownerAt_10 flX9_55 rfl ha1 ?_
      refine pw_iload_n dX9_ownerAt_13 rfl ?_
      refine pw_icmp_ne (tgt := 22) dX9_ownerAt_14 (by decide) (fun h14 => ?_) (fun h14 => ?_)
      · refine pw_aload_n dX9_ownerAt_22 rfl ?_
        refine pw_getR dX9_ownerAt_23 flX9_61 rfl ha1 ?_
        refine pw_astore_n dX9_ownerAt_26 (Nat.le_of_ble_eq_true rfl) (Nat.le_of_ble_eq_true rfl) rfl ?_
        refine pw_goto (tgt := 5) dX9_ownerAt_27 (by decide) ?_
        rw [if_neg (fun z => h14 (f4.trans z))]
        exact hh
      · refine pw_aload_n dX9_ownerAt_17 rfl ?_
        refine pw_getI dX9_ownerAt_18 flX9_45 rfl ha1 ?_
        refine pw_iret dX9_ownerAt_21 rfl rfl ?_
        exact ⟨by rw [if_pos (f4.symm.trans h14), f2], rfl⟩
theorem t_ownerAt {d al a : Nat} {σ : pm_S} {xs : List c_A} (ha : pm_is σ a 9) (hc : Ch σ (qR σ a 8) xs) (w : Int32) : PE d al MX9_ownerAt [.ref a, .int w] σ (some (.int (c_oa w xs))) σ := by
  show PW _ _ _ _ _ _ _ _
  refine pw_aload_n dX9_ownerAt_0 rfl ?_
  refine pw_getR dX9_ownerAt_1 flX9_41 rfl ha ?_
  refine pw_astore_n dX9_ownerAt_4 (Nat.le_of_ble_eq_true rfl) (Nat.le_of_ble_eq_true rfl) rfl ?_
  exact t_ownerAt_lp a w xs (qR σ a 8) hc
