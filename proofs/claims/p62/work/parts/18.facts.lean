set_option maxRecDepth 100000 in
theorem pp_0_0 : ∀ q, am_cl[0]? = some q → ((q.2.1 0).2.2.2 = true ∧ (q.2.1 0).1 = "LiftGroup$Building") ∧ parseFieldDescriptor (q.2.1 0).2.2.1 = some (.array (.object "LiftGroup$Car")) := fun q hq => by cases hq; exact ⟨⟨rfl, rfl⟩, by decide +kernel⟩
set_option maxRecDepth 100000 in
theorem pp_0_1 : ∀ q, am_cl[0]? = some q → ((q.2.1 1).2.2.2 = true ∧ (q.2.1 1).1 = "LiftGroup$Building") ∧ parseFieldDescriptor (q.2.1 1).2.2.1 = some (.array (.object "LiftGroup$Passenger")) := fun q hq => by cases hq; exact ⟨⟨rfl, rfl⟩, by decide +kernel⟩
set_option maxRecDepth 100000 in
theorem pp_5_0 : ∀ q, am_cl[5]? = some q → ((q.2.1 0).2.2.2 = true ∧ (q.2.1 0).1 = "LiftGroup$TripLog") ∧ parseFieldDescriptor (q.2.1 0).2.2.1 = some (.array .int) := fun q hq => by cases hq; exact ⟨⟨rfl, rfl⟩, by decide +kernel⟩
set_option maxRecDepth 100000 in
theorem pp_5_1 : ∀ q, am_cl[5]? = some q → ((q.2.1 1).2.2.2 = true ∧ (q.2.1 1).1 = "LiftGroup$TripLog") ∧ parseFieldDescriptor (q.2.1 1).2.2.1 = some (.array .int) := fun q hq => by cases hq; exact ⟨⟨rfl, rfl⟩, by decide +kernel⟩
set_option maxRecDepth 100000 in
theorem pp_5_2 : ∀ q, am_cl[5]? = some q → ((q.2.1 2).2.2.2 = true ∧ (q.2.1 2).1 = "LiftGroup$TripLog") ∧ parseFieldDescriptor (q.2.1 2).2.2.1 = some (.array .int) := fun q hq => by cases hq; exact ⟨⟨rfl, rfl⟩, by decide +kernel⟩
set_option maxRecDepth 100000 in
theorem pp_5_3 : ∀ q, am_cl[5]? = some q → (q.2.1 3).2.2.2 = false ∧ parseFieldDescriptor (q.2.1 3).2.2.1 = some (.int) := fun q hq => by cases hq; exact ⟨rfl, by decide +kernel⟩
set_option maxRecDepth 100000 in
theorem pp_5_4 : ∀ q, am_cl[5]? = some q → (q.2.1 4).2.2.2 = false ∧ parseFieldDescriptor (q.2.1 4).2.2.1 = some (.int) := fun q hq => by cases hq; exact ⟨rfl, by decide +kernel⟩
set_option maxRecDepth 100000 in
theorem pp_0_2 : ∀ q, am_cl[0]? = some q → ((q.2.1 2).2.2.2 = true ∧ (q.2.1 2).1 = "LiftGroup$Building") ∧ parseFieldDescriptor (q.2.1 2).2.2.1 = some (.object "LiftGroup$TripLog") := fun q hq => by cases hq; exact ⟨⟨rfl, rfl⟩, by decide +kernel⟩
set_option maxRecDepth 100000 in
theorem pp_0_3 : ∀ q, am_cl[0]? = some q → (q.2.1 3).2.2.2 = false ∧ parseFieldDescriptor (q.2.1 3).2.2.1 = some (.int) := fun q hq => by cases hq; exact ⟨rfl, by decide +kernel⟩
set_option maxRecDepth 100000 in
theorem pp_0_4 : ∀ q, am_cl[0]? = some q → (q.2.1 4).2.2.2 = false ∧ parseFieldDescriptor (q.2.1 4).2.2.1 = some (.int) := fun q hq => by cases hq; exact ⟨rfl, by decide +kernel⟩
set_option maxRecDepth 100000 in
theorem pp_0_5 : ∀ q, am_cl[0]? = some q → (q.2.1 5).2.2.2 = false ∧ parseFieldDescriptor (q.2.1 5).2.2.1 = some (.int) := fun q hq => by cases hq; exact ⟨rfl, by decide +kernel⟩
set_option maxRecDepth 100000 in
theorem pp_0_6 : ∀ q, am_cl[0]? = some q → (q.2.1 6).2.2.2 = false ∧ parseFieldDescriptor (q.2.1 6).2.2.1 = some (.int) := fun q hq => by cases hq; exact ⟨rfl, by decide +kernel⟩
set_option maxRecDepth 100000 in
theorem pp_0_7 : ∀ q, am_cl[0]? = some q → (q.2.1 7).2.2.2 = false ∧ parseFieldDescriptor (q.2.1 7).2.2.1 = some (.int) := fun q hq => by cases hq; exact ⟨rfl, by decide +kernel⟩
set_option maxRecDepth 100000 in
theorem pp_0_8 : ∀ q, am_cl[0]? = some q → (q.2.1 8).2.2.2 = false ∧ parseFieldDescriptor (q.2.1 8).2.2.1 = some (.int) := fun q hq => by cases hq; exact ⟨rfl, by decide +kernel⟩
set_option maxRecDepth 100000 in
theorem pp_0_9 : ∀ q, am_cl[0]? = some q → (q.2.1 9).2.2.2 = false ∧ parseFieldDescriptor (q.2.1 9).2.2.1 = some (.int) := fun q hq => by cases hq; exact ⟨rfl, by decide +kernel⟩
set_option maxRecDepth 100000 in
theorem pp_1_0 : ∀ q, am_cl[1]? = some q → (q.2.1 0).2.2.2 = false ∧ parseFieldDescriptor (q.2.1 0).2.2.1 = some (.int) := fun q hq => by cases hq; exact ⟨rfl, by decide +kernel⟩
set_option maxRecDepth 100000 in
theorem pp_1_1 : ∀ q, am_cl[1]? = some q → (q.2.1 1).2.2.2 = false ∧ parseFieldDescriptor (q.2.1 1).2.2.1 = some (.int) := fun q hq => by cases hq; exact ⟨rfl, by decide +kernel⟩
set_option maxRecDepth 100000 in
theorem pp_1_2 : ∀ q, am_cl[1]? = some q → (q.2.1 2).2.2.2 = false ∧ parseFieldDescriptor (q.2.1 2).2.2.1 = some (.int) := fun q hq => by cases hq; exact ⟨rfl, by decide +kernel⟩
set_option maxRecDepth 100000 in
theorem pp_1_3 : ∀ q, am_cl[1]? = some q → (q.2.1 3).2.2.2 = false ∧ parseFieldDescriptor (q.2.1 3).2.2.1 = some (.int) := fun q hq => by cases hq; exact ⟨rfl, by decide +kernel⟩
set_option maxRecDepth 100000 in
theorem pp_1_4 : ∀ q, am_cl[1]? = some q → (q.2.1 4).2.2.2 = false ∧ parseFieldDescriptor (q.2.1 4).2.2.1 = some (.int) := fun q hq => by cases hq; exact ⟨rfl, by decide +kernel⟩
set_option maxRecDepth 100000 in
theorem pp_1_5 : ∀ q, am_cl[1]? = some q → (q.2.1 5).2.2.2 = false ∧ parseFieldDescriptor (q.2.1 5).2.2.1 = some (.int) := fun q hq => by cases hq; exact ⟨rfl, by decide +kernel⟩
set_option maxRecDepth 100000 in
theorem pp_1_6 : ∀ q, am_cl[1]? = some q → (q.2.1 6).2.2.2 = false ∧ parseFieldDescriptor (q.2.1 6).2.2.1 = some (.int) := fun q hq => by cases hq; exact ⟨rfl, by decide +kernel⟩
set_option maxRecDepth 100000 in
theorem pp_1_7 : ∀ q, am_cl[1]? = some q → (q.2.1 7).2.2.2 = false ∧ parseFieldDescriptor (q.2.1 7).2.2.1 = some (.boolean) := fun q hq => by cases hq; exact ⟨rfl, by decide +kernel⟩
set_option maxRecDepth 100000 in
theorem pp_3_0 : ∀ q, am_cl[3]? = some q → (q.2.1 0).2.2.2 = false ∧ parseFieldDescriptor (q.2.1 0).2.2.1 = some (.int) := fun q hq => by cases hq; exact ⟨rfl, by decide +kernel⟩
set_option maxRecDepth 100000 in
theorem pp_3_1 : ∀ q, am_cl[3]? = some q → (q.2.1 1).2.2.2 = false ∧ parseFieldDescriptor (q.2.1 1).2.2.1 = some (.int) := fun q hq => by cases hq; exact ⟨rfl, by decide +kernel⟩
set_option maxRecDepth 100000 in
theorem pp_3_2 : ∀ q, am_cl[3]? = some q → (q.2.1 2).2.2.2 = false ∧ parseFieldDescriptor (q.2.1 2).2.2.1 = some (.int) := fun q hq => by cases hq; exact ⟨rfl, by decide +kernel⟩
set_option maxRecDepth 100000 in
theorem pp_3_3 : ∀ q, am_cl[3]? = some q → (q.2.1 3).2.2.2 = false ∧ parseFieldDescriptor (q.2.1 3).2.2.1 = some (.int) := fun q hq => by cases hq; exact ⟨rfl, by decide +kernel⟩
set_option maxRecDepth 100000 in
theorem pp_3_4 : ∀ q, am_cl[3]? = some q → (q.2.1 4).2.2.2 = false ∧ parseFieldDescriptor (q.2.1 4).2.2.1 = some (.int) := fun q hq => by cases hq; exact ⟨rfl, by decide +kernel⟩
set_option maxRecDepth 100000 in
theorem pp_3_5 : ∀ q, am_cl[3]? = some q → (q.2.1 5).2.2.2 = false ∧ parseFieldDescriptor (q.2.1 5).2.2.1 = some (.int) := fun q hq => by cases hq; exact ⟨rfl, by decide +kernel⟩
set_option maxRecDepth 100000 in
theorem pp_3_6 : ∀ q, am_cl[3]? = some q → (q.2.1 6).2.2.2 = false ∧ parseFieldDescriptor (q.2.1 6).2.2.1 = some (.boolean) := fun q hq => by cases hq; exact ⟨rfl, by decide +kernel⟩
set_option maxRecDepth 100000 in
theorem pp_2_0 : ∀ q, am_cl[2]? = some q → ((q.2.1 0).2.2.2 = true ∧ (q.2.1 0).1 = "LiftGroup$History") ∧ parseFieldDescriptor (q.2.1 0).2.2.1 = some (.array (.object "LiftGroup$Building")) := fun q hq => by cases hq; exact ⟨⟨rfl, rfl⟩, by decide +kernel⟩
set_option maxRecDepth 100000 in
theorem pp_2_1 : ∀ q, am_cl[2]? = some q → (q.2.1 1).2.2.2 = false ∧ parseFieldDescriptor (q.2.1 1).2.2.1 = some (.int) := fun q hq => by cases hq; exact ⟨rfl, by decide +kernel⟩
set_option maxRecDepth 100000 in
theorem pp_2_2 : ∀ q, am_cl[2]? = some q → (q.2.1 2).2.2.2 = false ∧ parseFieldDescriptor (q.2.1 2).2.2.1 = some (.int) := fun q hq => by cases hq; exact ⟨rfl, by decide +kernel⟩
set_option maxRecDepth 100000 in
theorem pp_8_0 : ∀ q, am_cl[8]? = some q → (q.2.1 0).2.2.2 = false ∧ parseFieldDescriptor (q.2.1 0).2.2.1 = some (.array .byte) := fun q hq => by cases hq; exact ⟨rfl, by decide +kernel⟩
set_option maxRecDepth 100000 in
theorem pp_8_1 : ∀ q, am_cl[8]? = some q → (q.2.1 1).2.2.2 = false ∧ parseFieldDescriptor (q.2.1 1).2.2.1 = some (.byte) := fun q hq => by cases hq; exact ⟨rfl, by decide +kernel⟩
set_option maxRecDepth 100000 in
theorem pp_8_2 : ∀ q, am_cl[8]? = some q → (q.2.1 2).2.2.2 = false ∧ parseFieldDescriptor (q.2.1 2).2.2.1 = some (.boolean) := fun q hq => by cases hq; exact ⟨rfl, by decide +kernel⟩
set_option maxRecDepth 100000 in
theorem pp_8_3 : ∀ q, am_cl[8]? = some q → (q.2.1 3).2.2.2 = false ∧ parseFieldDescriptor (q.2.1 3).2.2.1 = some (.int) := fun q hq => by cases hq; exact ⟨rfl, by decide +kernel⟩
set_option maxRecDepth 100000 in
theorem pp_4_0 : ∀ q, am_cl[4]? = some q → ((q.2.1 0).2.2.2 = true ∧ (q.2.1 0).1 = "LiftGroup$Script") ∧ parseFieldDescriptor (q.2.1 0).2.2.1 = some (.object "java/lang/StringBuilder") := fun q hq => by cases hq; exact ⟨⟨rfl, rfl⟩, by decide +kernel⟩
set_option maxRecDepth 100000 in
theorem pp_4_1 : ∀ q, am_cl[4]? = some q → ((q.2.1 1).2.2.2 = true ∧ (q.2.1 1).1 = "LiftGroup$Script") ∧ parseFieldDescriptor (q.2.1 1).2.2.1 = some (.array .int) := fun q hq => by cases hq; exact ⟨⟨rfl, rfl⟩, by decide +kernel⟩
set_option maxRecDepth 100000 in
theorem pp_4_3 : ∀ q, am_cl[4]? = some q → (q.2.1 3).2.2.2 = false ∧ parseFieldDescriptor (q.2.1 3).2.2.1 = some (.int) := fun q hq => by cases hq; exact ⟨rfl, by decide +kernel⟩
set_option maxRecDepth 100000 in
theorem pp_4_4 : ∀ q, am_cl[4]? = some q → (q.2.1 4).2.2.2 = false ∧ parseFieldDescriptor (q.2.1 4).2.2.1 = some (.int) := fun q hq => by cases hq; exact ⟨rfl, by decide +kernel⟩
set_option maxRecDepth 100000 in
theorem pp_6_0 : ∀ q, am_cl[6]? = some q → ((q.2.1 0).2.2.2 = true ∧ (q.2.1 0).1 = "LiftGroup") ∧ parseFieldDescriptor (q.2.1 0).2.2.1 = some (.object "LiftGroup$Building") := fun q hq => by cases hq; exact ⟨⟨rfl, rfl⟩, by decide +kernel⟩
set_option maxRecDepth 100000 in
theorem pp_6_1 : ∀ q, am_cl[6]? = some q → ((q.2.1 1).2.2.2 = true ∧ (q.2.1 1).1 = "LiftGroup") ∧ parseFieldDescriptor (q.2.1 1).2.2.1 = some (.object "LiftGroup$Building") := fun q hq => by cases hq; exact ⟨⟨rfl, rfl⟩, by decide +kernel⟩
set_option maxRecDepth 100000 in
theorem pp_6_2 : ∀ q, am_cl[6]? = some q → ((q.2.1 2).2.2.2 = true ∧ (q.2.1 2).1 = "LiftGroup") ∧ parseFieldDescriptor (q.2.1 2).2.2.1 = some (.object "LiftGroup$Building") := fun q hq => by cases hq; exact ⟨⟨rfl, rfl⟩, by decide +kernel⟩
set_option maxRecDepth 100000 in
theorem pp_6_3 : ∀ q, am_cl[6]? = some q → ((q.2.1 3).2.2.2 = true ∧ (q.2.1 3).1 = "LiftGroup") ∧ parseFieldDescriptor (q.2.1 3).2.2.1 = some (.object "LiftGroup$History") := fun q hq => by cases hq; exact ⟨⟨rfl, rfl⟩, by decide +kernel⟩
set_option maxRecDepth 100000 in
theorem pp_4_2 : ∀ q, am_cl[4]? = some q → ((q.2.1 2).2.2.2 = true ∧ (q.2.1 2).1 = "LiftGroup$Script") ∧ parseFieldDescriptor (q.2.1 2).2.2.1 = some (.array (.array .int)) := fun q hq => by cases hq; exact ⟨⟨rfl, rfl⟩, by decide +kernel⟩
set_option maxRecDepth 100000 in
theorem pp_6_4 : ∀ q, am_cl[6]? = some q → ((q.2.1 4).2.2.2 = true ∧ (q.2.1 4).1 = "LiftGroup") ∧ parseFieldDescriptor (q.2.1 4).2.2.1 = some (.object "LiftGroup$Script") := fun q hq => by cases hq; exact ⟨⟨rfl, rfl⟩, by decide +kernel⟩
set_option maxRecDepth 100000 in
theorem pp_6_5 : ∀ q, am_cl[6]? = some q → ((q.2.1 5).2.2.2 = true ∧ (q.2.1 5).1 = "LiftGroup") ∧ parseFieldDescriptor (q.2.1 5).2.2.1 = some (.object "java/lang/StringBuilder") := fun q hq => by cases hq; exact ⟨⟨rfl, rfl⟩, by decide +kernel⟩
set_option maxRecDepth 100000 in
theorem pp_6_6 : ∀ q, am_cl[6]? = some q → (q.2.1 6).2.2.2 = false ∧ parseFieldDescriptor (q.2.1 6).2.2.1 = some (.boolean) := fun q hq => by cases hq; exact ⟨rfl, by decide +kernel⟩
set_option maxRecDepth 100000 in
theorem pp_6_7 : ∀ q, am_cl[6]? = some q → (q.2.1 7).2.2.2 = false ∧ parseFieldDescriptor (q.2.1 7).2.2.1 = some (.int) := fun q hq => by cases hq; exact ⟨rfl, by decide +kernel⟩
set_option maxRecDepth 100000 in
theorem pp_6_8 : ∀ q, am_cl[6]? = some q → (q.2.1 8).2.2.2 = false ∧ parseFieldDescriptor (q.2.1 8).2.2.1 = some (.int) := fun q hq => by cases hq; exact ⟨rfl, by decide +kernel⟩
set_option maxRecDepth 100000 in
theorem pp_7_0 : ∀ q, am_cl[7]? = some q → (q.2.1 0).2.2.2 = false ∧ parseFieldDescriptor (q.2.1 0).2.2.1 = some (.int) := fun q hq => by cases hq; exact ⟨rfl, by decide +kernel⟩
set_option maxRecDepth 100000 in
theorem pp_7_1 : ∀ q, am_cl[7]? = some q → (q.2.1 1).2.2.2 = false ∧ parseFieldDescriptor (q.2.1 1).2.2.1 = some (.array (.object "java/lang/Object")) := fun q hq => by cases hq; exact ⟨rfl, by decide +kernel⟩
set_option maxRecDepth 100000 in
theorem pp_7_2 : ∀ q, am_cl[7]? = some q → (q.2.1 2).2.2.2 = false ∧ parseFieldDescriptor (q.2.1 2).2.2.1 = some (.int) := fun q hq => by cases hq; exact ⟨rfl, by decide +kernel⟩
set_option maxRecDepth 100000 in
theorem pp_10_0 : ∀ q, am_cl[10]? = some q → (q.2.1 0).2.2.2 = false ∧ parseFieldDescriptor (q.2.1 0).2.2.1 = some (.int) := fun q hq => by cases hq; exact ⟨rfl, by decide +kernel⟩
set_option maxRecDepth 100000 in
theorem pp_10_1 : ∀ q, am_cl[10]? = some q → (q.2.1 1).2.2.2 = false ∧ parseFieldDescriptor (q.2.1 1).2.2.1 = some (.int) := fun q hq => by cases hq; exact ⟨rfl, by decide +kernel⟩
set_option maxRecDepth 100000 in
theorem pp_10_2 : ∀ q, am_cl[10]? = some q → (q.2.1 2).2.2.2 = false ∧ parseFieldDescriptor (q.2.1 2).2.2.1 = some (.int) := fun q hq => by cases hq; exact ⟨rfl, by decide +kernel⟩
set_option maxRecDepth 100000 in
theorem pp_10_3 : ∀ q, am_cl[10]? = some q → ((q.2.1 3).2.2.2 = true ∧ (q.2.1 3).1 = "java/util/ArrayList$Itr") ∧ parseFieldDescriptor (q.2.1 3).2.2.1 = some (.object "java/util/ArrayList") := fun q hq => by cases hq; exact ⟨⟨rfl, rfl⟩, by decide +kernel⟩
set_option maxRecDepth 100000 in
theorem ff_LiftGroup_Building_11 : am_F "LiftGroup$Building" 11 0 0 := ⟨RX0, TX0, 10, rfl, by decide, tw_169⟩
set_option maxRecDepth 100000 in
theorem ff_LiftGroup_Building_19 : am_F "LiftGroup$Building" 19 0 1 := ⟨RX0, TX0, 10, rfl, by decide, tw_171⟩
set_option maxRecDepth 100000 in
theorem dv_5 : am_dv 5 := by
  intro k b hk q hq ty hty
  cases hq
  match k, hk, hty with
  | 0, hk, hty => cases hk; have e1 := pp_5_0 _ rfl; cases (e1.2.symm.trans hty); rfl
  | 1, hk, hty => cases hk; have e1 := pp_5_1 _ rfl; cases (e1.2.symm.trans hty); rfl
  | 2, hk, hty => cases hk; have e1 := pp_5_2 _ rfl; cases (e1.2.symm.trans hty); rfl
  | 3, hk, hty => cases hk; have e1 := pp_5_3 _ rfl; cases (e1.2.symm.trans hty); rfl
  | 4, hk, hty => cases hk; have e1 := pp_5_4 _ rfl; cases (e1.2.symm.trans hty); rfl
  | k + 5, hk, hty => simp [am_kd] at hk
set_option maxRecDepth 100000 in
theorem mkX5_init : am_mk rX5_init := ⟨tw_57, tw_3, by decide, by decide +kernel, by decide +kernel, by decide +kernel⟩
set_option maxRecDepth 100000 in
theorem prX5_init : am_par rX5_init 0 := by unfold am_par; decide +kernel
set_option maxRecDepth 100000 in
theorem mm_LiftGroup_Building_25 : am_mIN "LiftGroup$Building" "LiftGroup" 25 rX5_init 0 := ⟨mkX5_init, rfl, prX5_init, tn_55, tw_56, rfl, rfl⟩
set_option maxRecDepth 100000 in
theorem ff_LiftGroup_Building_26 : am_F "LiftGroup$Building" 26 0 2 := ⟨RX0, TX0, 10, rfl, by decide, tw_173⟩
set_option maxRecDepth 100000 in
theorem ff_LiftGroup_Building_30 : am_F "LiftGroup$Building" 30 0 3 := ⟨RX0, TX0, 10, rfl, by decide, tw_175⟩
set_option maxRecDepth 100000 in
theorem ff_LiftGroup_Building_34 : am_F "LiftGroup$Building" 34 0 4 := ⟨RX0, TX0, 10, rfl, by decide, tw_177⟩
set_option maxRecDepth 100000 in
theorem ff_LiftGroup_Building_37 : am_F "LiftGroup$Building" 37 0 5 := ⟨RX0, TX0, 10, rfl, by decide, tw_178⟩
set_option maxRecDepth 100000 in
theorem ff_LiftGroup_Building_40 : am_F "LiftGroup$Building" 40 0 6 := ⟨RX0, TX0, 10, rfl, by decide, tw_180⟩
set_option maxRecDepth 100000 in
theorem ff_LiftGroup_Building_43 : am_F "LiftGroup$Building" 43 0 7 := ⟨RX0, TX0, 10, rfl, by decide, tw_182⟩
set_option maxRecDepth 100000 in
theorem ff_LiftGroup_Building_46 : am_F "LiftGroup$Building" 46 0 8 := ⟨RX0, TX0, 10, rfl, by decide, tw_184⟩
set_option maxRecDepth 100000 in
theorem ff_LiftGroup_Building_49 : am_F "LiftGroup$Building" 49 0 9 := ⟨RX0, TX0, 10, rfl, by decide, tw_185⟩
set_option maxRecDepth 100000 in
theorem dv_1 : am_dv 1 := by
  intro k b hk q hq ty hty
  cases hq
  match k, hk, hty with
  | 0, hk, hty => cases hk; have e1 := pp_1_0 _ rfl; cases (e1.2.symm.trans hty); rfl
  | 1, hk, hty => cases hk; have e1 := pp_1_1 _ rfl; cases (e1.2.symm.trans hty); rfl
  | 2, hk, hty => cases hk; have e1 := pp_1_2 _ rfl; cases (e1.2.symm.trans hty); rfl
  | 3, hk, hty => cases hk; have e1 := pp_1_3 _ rfl; cases (e1.2.symm.trans hty); rfl
  | 4, hk, hty => cases hk; have e1 := pp_1_4 _ rfl; cases (e1.2.symm.trans hty); rfl
  | 5, hk, hty => cases hk; have e1 := pp_1_5 _ rfl; cases (e1.2.symm.trans hty); rfl
  | 6, hk, hty => cases hk; have e1 := pp_1_6 _ rfl; cases (e1.2.symm.trans hty); rfl
  | 7, hk, hty => cases hk; have e1 := pp_1_7 _ rfl; cases (e1.2.symm.trans hty); rfl
  | k + 8, hk, hty => simp [am_kd] at hk
set_option maxRecDepth 100000 in
theorem mkX1_init : am_mk rX1_init := ⟨tw_85, tw_4, by decide, by decide +kernel, by decide +kernel, by decide +kernel⟩
set_option maxRecDepth 100000 in
theorem prX1_init : am_par rX1_init 0 := by unfold am_par; decide +kernel
set_option maxRecDepth 100000 in
theorem mm_LiftGroup_Building_52 : am_mIN "LiftGroup$Building" "LiftGroup" 52 rX1_init 0 := ⟨mkX1_init, rfl, prX1_init, tn_83, tw_84, rfl, rfl⟩
set_option maxRecDepth 100000 in
theorem dv_3 : am_dv 3 := by
  intro k b hk q hq ty hty
  cases hq
  match k, hk, hty with
  | 0, hk, hty => cases hk; have e1 := pp_3_0 _ rfl; cases (e1.2.symm.trans hty); rfl
  | 1, hk, hty => cases hk; have e1 := pp_3_1 _ rfl; cases (e1.2.symm.trans hty); rfl
  | 2, hk, hty => cases hk; have e1 := pp_3_2 _ rfl; cases (e1.2.symm.trans hty); rfl
  | 3, hk, hty => cases hk; have e1 := pp_3_3 _ rfl; cases (e1.2.symm.trans hty); rfl
  | 4, hk, hty => cases hk; have e1 := pp_3_4 _ rfl; cases (e1.2.symm.trans hty); rfl
  | 5, hk, hty => cases hk; have e1 := pp_3_5 _ rfl; cases (e1.2.symm.trans hty); rfl
  | 6, hk, hty => cases hk; have e1 := pp_3_6 _ rfl; cases (e1.2.symm.trans hty); rfl
  | k + 7, hk, hty => simp [am_kd] at hk
set_option maxRecDepth 100000 in
theorem mkX3_init : am_mk rX3_init := ⟨tw_131, tw_5, by decide, by decide +kernel, by decide +kernel, by decide +kernel⟩
set_option maxRecDepth 100000 in
theorem prX3_init : am_par rX3_init 0 := by unfold am_par; decide +kernel
set_option maxRecDepth 100000 in
theorem mm_LiftGroup_Building_53 : am_mIN "LiftGroup$Building" "LiftGroup" 53 rX3_init 0 := ⟨mkX3_init, rfl, prX3_init, tn_129, tw_130, rfl, rfl⟩
set_option maxRecDepth 100000 in
theorem mkX0_init : am_mk rX0_init := ⟨tw_47, tw_2, by decide, by decide +kernel, by decide +kernel, by decide +kernel⟩
set_option maxRecDepth 100000 in
theorem mkX1_copyFrom : am_mk rX1_copyFrom := ⟨tw_467, tw_4, by decide, by decide +kernel, by decide +kernel, by decide +kernel⟩
set_option maxRecDepth 100000 in
theorem prX1_copyFrom : am_par rX1_copyFrom 1 := by unfold am_par; decide +kernel
set_option maxRecDepth 100000 in
theorem mm_LiftGroup_Building_54 : am_mV "LiftGroup$Building" 54 rX1_copyFrom "LiftGroup$Car" 1 := ⟨mkX1_copyFrom, rfl, prX1_copyFrom, rfl, tw_464, tw_465, tw_466, tw_4⟩
set_option maxRecDepth 100000 in
theorem mkX5_copyFrom : am_mk rX5_copyFrom := ⟨tw_475, tw_3, by decide, by decide +kernel, by decide +kernel, by decide +kernel⟩
set_option maxRecDepth 100000 in
theorem prX5_copyFrom : am_par rX5_copyFrom 1 := by unfold am_par; decide +kernel
set_option maxRecDepth 100000 in
theorem mm_LiftGroup_Building_61 : am_mV "LiftGroup$Building" 61 rX5_copyFrom "LiftGroup$TripLog" 1 := ⟨mkX5_copyFrom, rfl, prX5_copyFrom, rfl, tw_472, tw_473, tw_474, tw_3⟩
set_option maxRecDepth 100000 in
theorem mkX3_copyFrom : am_mk rX3_copyFrom := ⟨tw_471, tw_5, by decide, by decide +kernel, by decide +kernel, by decide +kernel⟩
set_option maxRecDepth 100000 in
theorem prX3_copyFrom : am_par rX3_copyFrom 1 := by unfold am_par; decide +kernel
set_option maxRecDepth 100000 in
theorem mm_LiftGroup_Building_58 : am_mV "LiftGroup$Building" 58 rX3_copyFrom "LiftGroup$Passenger" 1 := ⟨mkX3_copyFrom, rfl, prX3_copyFrom, rfl, tw_468, tw_469, tw_470, tw_5⟩
set_option maxRecDepth 100000 in
theorem mkX0_copyFrom : am_mk rX0_copyFrom := ⟨tw_463, tw_2, by decide, by decide +kernel, by decide +kernel, by decide +kernel⟩
set_option maxRecDepth 100000 in
theorem mkX6_isFloor : am_mk rX6_isFloor := ⟨tw_329, tw_1, by decide, by decide +kernel, by decide +kernel, by decide +kernel⟩
set_option maxRecDepth 100000 in
theorem prX6_isFloor : am_par rX6_isFloor 1 := by unfold am_par; decide +kernel
set_option maxRecDepth 100000 in
theorem mm_LiftGroup_Building_64 : am_mSN "LiftGroup$Building" "LiftGroup" 64 rX6_isFloor 1 := ⟨mkX6_isFloor, rfl, prX6_isFloor, tn_327, tw_328⟩
set_option maxRecDepth 100000 in
theorem mkX6_isWeight : am_mk rX6_isWeight := ⟨tw_332, tw_1, by decide, by decide +kernel, by decide +kernel, by decide +kernel⟩
set_option maxRecDepth 100000 in
theorem prX6_isWeight : am_par rX6_isWeight 1 := by unfold am_par; decide +kernel
set_option maxRecDepth 100000 in
theorem mm_LiftGroup_Building_68 : am_mSN "LiftGroup$Building" "LiftGroup" 68 rX6_isWeight 1 := ⟨mkX6_isWeight, rfl, prX6_isWeight, tn_330, tw_331⟩
set_option maxRecDepth 100000 in
theorem mkX0_refusalToAdd : am_mk rX0_refusalToAdd := ⟨tw_326, tw_2, by decide, by decide +kernel, by decide +kernel, by decide +kernel⟩
set_option maxRecDepth 100000 in
theorem ff_LiftGroup_Building_71 : am_F "LiftGroup$Building" 71 3 0 := ⟨RX3, TX3, 7, rfl, by decide, tw_134⟩
set_option maxRecDepth 100000 in
theorem ff_LiftGroup_Building_74 : am_F "LiftGroup$Building" 74 3 1 := ⟨RX3, TX3, 7, rfl, by decide, tw_137⟩
set_option maxRecDepth 100000 in
theorem ff_LiftGroup_Building_77 : am_F "LiftGroup$Building" 77 3 2 := ⟨RX3, TX3, 7, rfl, by decide, tw_140⟩
set_option maxRecDepth 100000 in
theorem ff_LiftGroup_Building_80 : am_F "LiftGroup$Building" 80 3 3 := ⟨RX3, TX3, 7, rfl, by decide, tw_143⟩
set_option maxRecDepth 100000 in
theorem ff_LiftGroup_Building_83 : am_F "LiftGroup$Building" 83 3 4 := ⟨RX3, TX3, 7, rfl, by decide, tw_146⟩
set_option maxRecDepth 100000 in
theorem ff_LiftGroup_Building_86 : am_F "LiftGroup$Building" 86 3 6 := ⟨RX3, TX3, 7, rfl, by decide, tw_152⟩
set_option maxRecDepth 100000 in
theorem mkX0_chooseCar : am_mk rX0_chooseCar := ⟨tw_489, tw_2, by decide, by decide +kernel, by decide +kernel, by decide +kernel⟩
set_option maxRecDepth 100000 in
theorem prX0_chooseCar : am_par rX0_chooseCar 2 := by unfold am_par; decide +kernel
set_option maxRecDepth 100000 in
theorem mm_LiftGroup_Building_90 : am_mV "LiftGroup$Building" 90 rX0_chooseCar "LiftGroup$Building" 2 := ⟨mkX0_chooseCar, rfl, prX0_chooseCar, rfl, tw_486, tw_487, tw_488, tw_2⟩
set_option maxRecDepth 100000 in
theorem ff_LiftGroup_Building_94 : am_F "LiftGroup$Building" 94 3 5 := ⟨RX3, TX3, 7, rfl, by decide, tw_149⟩
set_option maxRecDepth 100000 in
theorem mkX0_add : am_mk rX0_add := ⟨tw_485, tw_2, by decide, by decide +kernel, by decide +kernel, by decide +kernel⟩
set_option maxRecDepth 100000 in
theorem mkX0_isPassenger : am_mk rX0_isPassenger := ⟨tw_668, tw_2, by decide, by decide +kernel, by decide +kernel, by decide +kernel⟩
set_option maxRecDepth 100000 in
theorem prX0_isPassenger : am_par rX0_isPassenger 1 := by unfold am_par; decide +kernel
set_option maxRecDepth 100000 in
theorem mm_LiftGroup_Building_97 : am_mV "LiftGroup$Building" 97 rX0_isPassenger "LiftGroup$Building" 1 := ⟨mkX0_isPassenger, rfl, prX0_isPassenger, rfl, tw_1202, tw_666, tw_667, tw_2⟩
set_option maxRecDepth 100000 in
theorem mkX0_refusalToRemove : am_mk rX0_refusalToRemove := ⟨tw_1201, tw_2, by decide, by decide +kernel, by decide +kernel, by decide +kernel⟩
set_option maxRecDepth 100000 in
theorem mkX0_remove : am_mk rX0_remove := ⟨tw_1217, tw_2, by decide, by decide +kernel, by decide +kernel, by decide +kernel⟩
set_option maxRecDepth 100000 in
theorem mkX6_isCar : am_mk rX6_isCar := ⟨tw_514, tw_1, by decide, by decide +kernel, by decide +kernel, by decide +kernel⟩
set_option maxRecDepth 100000 in
theorem prX6_isCar : am_par rX6_isCar 1 := by unfold am_par; decide +kernel
set_option maxRecDepth 100000 in
theorem mm_LiftGroup_Building_100 : am_mSN "LiftGroup$Building" "LiftGroup" 100 rX6_isCar 1 := ⟨mkX6_isCar, rfl, prX6_isCar, tn_512, tw_513⟩
set_option maxRecDepth 100000 in
theorem ff_LiftGroup_Building_103 : am_F "LiftGroup$Building" 103 1 5 := ⟨RX1, TX1, 8, rfl, by decide, tw_103⟩
set_option maxRecDepth 100000 in
theorem mkX0_refusalToHold : am_mk rX0_refusalToHold := ⟨tw_511, tw_2, by decide, by decide +kernel, by decide +kernel, by decide +kernel⟩
set_option maxRecDepth 100000 in
theorem mkX0_hold : am_mk rX0_hold := ⟨tw_518, tw_2, by decide, by decide +kernel, by decide +kernel, by decide +kernel⟩
set_option maxRecDepth 100000 in
theorem ff_LiftGroup_Building_106 : am_F "LiftGroup$Building" 106 1 7 := ⟨RX1, TX1, 8, rfl, by decide, tw_109⟩
set_option maxRecDepth 100000 in
theorem mkX0_refusalToStop : am_mk rX0_refusalToStop := ⟨tw_526, tw_2, by decide, by decide +kernel, by decide +kernel, by decide +kernel⟩
set_option maxRecDepth 100000 in
theorem mkX0_takeOutOfService : am_mk rX0_takeOutOfService := ⟨tw_530, tw_2, by decide, by decide +kernel, by decide +kernel, by decide +kernel⟩
set_option maxRecDepth 100000 in
theorem mkX0_refusalToStart : am_mk rX0_refusalToStart := ⟨tw_538, tw_2, by decide, by decide +kernel, by decide +kernel, by decide +kernel⟩
set_option maxRecDepth 100000 in
theorem mkX0_putInService : am_mk rX0_putInService := ⟨tw_542, tw_2, by decide, by decide +kernel, by decide +kernel, by decide +kernel⟩
set_option maxRecDepth 100000 in
theorem ff_LiftGroup_Building_109 : am_F "LiftGroup$Building" 109 1 3 := ⟨RX1, TX1, 8, rfl, by decide, tw_98⟩
set_option maxRecDepth 100000 in
theorem mkX0_refusalToLimit : am_mk rX0_refusalToLimit := ⟨tw_550, tw_2, by decide, by decide +kernel, by decide +kernel, by decide +kernel⟩
set_option maxRecDepth 100000 in
theorem ff_LiftGroup_Building_112 : am_F "LiftGroup$Building" 112 1 2 := ⟨RX1, TX1, 8, rfl, by decide, tw_95⟩
set_option maxRecDepth 100000 in
theorem mkX0_limit : am_mk rX0_limit := ⟨tw_554, tw_2, by decide, by decide +kernel, by decide +kernel, by decide +kernel⟩
set_option maxRecDepth 100000 in
theorem mkX0_refusalToPass : am_mk rX0_refusalToPass := ⟨tw_562, tw_2, by decide, by decide +kernel, by decide +kernel, by decide +kernel⟩
set_option maxRecDepth 100000 in
theorem ff_LiftGroup_Building_115 : am_F "LiftGroup$Building" 115 5 3 := ⟨RX5, TX5, 5, rfl, by decide, tw_66⟩
set_option maxRecDepth 100000 in
theorem mkX0_step : am_mk rX0_step := ⟨tw_570, tw_2, by decide, by decide +kernel, by decide +kernel, by decide +kernel⟩
set_option maxRecDepth 100000 in
theorem prX0_step : am_par rX0_step 0 := by unfold am_par; decide +kernel
set_option maxRecDepth 100000 in
theorem mm_LiftGroup_Building_118 : am_mV "LiftGroup$Building" 118 rX0_step "LiftGroup$Building" 0 := ⟨mkX0_step, rfl, prX0_step, rfl, tw_567, tw_568, tw_569, tw_2⟩
set_option maxRecDepth 100000 in
theorem mkX0_letPass : am_mk rX0_letPass := ⟨tw_566, tw_2, by decide, by decide +kernel, by decide +kernel, by decide +kernel⟩
set_option maxRecDepth 100000 in
theorem prX0_refusalToAdd : am_par rX0_refusalToAdd 3 := by unfold am_par; decide +kernel
set_option maxRecDepth 100000 in
theorem mm_LiftGroup_Building_121 : am_mV "LiftGroup$Building" 121 rX0_refusalToAdd "LiftGroup$Building" 3 := ⟨mkX0_refusalToAdd, rfl, prX0_refusalToAdd, rfl, tw_1197, tw_324, tw_325, tw_2⟩
set_option maxRecDepth 100000 in
theorem prX0_refusalToRemove : am_par rX0_refusalToRemove 1 := by unfold am_par; decide +kernel
set_option maxRecDepth 100000 in
theorem mm_LiftGroup_Building_125 : am_mV "LiftGroup$Building" 125 rX0_refusalToRemove "LiftGroup$Building" 1 := ⟨mkX0_refusalToRemove, rfl, prX0_refusalToRemove, rfl, tw_1198, tw_1199, tw_1200, tw_2⟩
set_option maxRecDepth 100000 in
theorem prX0_refusalToHold : am_par rX0_refusalToHold 2 := by unfold am_par; decide +kernel
set_option maxRecDepth 100000 in
theorem mm_LiftGroup_Building_129 : am_mV "LiftGroup$Building" 129 rX0_refusalToHold "LiftGroup$Building" 2 := ⟨mkX0_refusalToHold, rfl, prX0_refusalToHold, rfl, tw_1203, tw_509, tw_510, tw_2⟩
set_option maxRecDepth 100000 in
theorem prX0_refusalToStop : am_par rX0_refusalToStop 1 := by unfold am_par; decide +kernel
set_option maxRecDepth 100000 in
theorem mm_LiftGroup_Building_132 : am_mV "LiftGroup$Building" 132 rX0_refusalToStop "LiftGroup$Building" 1 := ⟨mkX0_refusalToStop, rfl, prX0_refusalToStop, rfl, tw_1204, tw_524, tw_525, tw_2⟩
set_option maxRecDepth 100000 in
theorem prX0_refusalToStart : am_par rX0_refusalToStart 1 := by unfold am_par; decide +kernel
set_option maxRecDepth 100000 in
theorem mm_LiftGroup_Building_135 : am_mV "LiftGroup$Building" 135 rX0_refusalToStart "LiftGroup$Building" 1 := ⟨mkX0_refusalToStart, rfl, prX0_refusalToStart, rfl, tw_1205, tw_536, tw_537, tw_2⟩
set_option maxRecDepth 100000 in
theorem prX0_refusalToLimit : am_par rX0_refusalToLimit 2 := by unfold am_par; decide +kernel
set_option maxRecDepth 100000 in
theorem mm_LiftGroup_Building_138 : am_mV "LiftGroup$Building" 138 rX0_refusalToLimit "LiftGroup$Building" 2 := ⟨mkX0_refusalToLimit, rfl, prX0_refusalToLimit, rfl, tw_1206, tw_548, tw_549, tw_2⟩
set_option maxRecDepth 100000 in
theorem prX0_refusalToPass : am_par rX0_refusalToPass 1 := by unfold am_par; decide +kernel
set_option maxRecDepth 100000 in
theorem mm_LiftGroup_Building_141 : am_mV "LiftGroup$Building" 141 rX0_refusalToPass "LiftGroup$Building" 1 := ⟨mkX0_refusalToPass, rfl, prX0_refusalToPass, rfl, tw_1207, tw_560, tw_561, tw_2⟩
set_option maxRecDepth 100000 in
theorem mkX0_refusalToPerform : am_mk rX0_refusalToPerform := ⟨tw_1196, tw_2, by decide, by decide +kernel, by decide +kernel, by decide +kernel⟩
set_option maxRecDepth 100000 in
theorem prX0_letPass : am_par rX0_letPass 1 := by unfold am_par; decide +kernel
set_option maxRecDepth 100000 in
theorem mm_LiftGroup_Building_162 : am_mV "LiftGroup$Building" 162 rX0_letPass "LiftGroup$Building" 1 := ⟨mkX0_letPass, rfl, prX0_letPass, rfl, tw_1222, tw_564, tw_565, tw_2⟩
set_option maxRecDepth 100000 in
theorem prX0_add : am_par rX0_add 3 := by unfold am_par; decide +kernel
set_option maxRecDepth 100000 in
theorem mm_LiftGroup_Building_144 : am_mV "LiftGroup$Building" 144 rX0_add "LiftGroup$Building" 3 := ⟨mkX0_add, rfl, prX0_add, rfl, tw_1213, tw_483, tw_484, tw_2⟩
set_option maxRecDepth 100000 in
theorem prX0_remove : am_par rX0_remove 1 := by unfold am_par; decide +kernel
set_option maxRecDepth 100000 in
theorem mm_LiftGroup_Building_147 : am_mV "LiftGroup$Building" 147 rX0_remove "LiftGroup$Building" 1 := ⟨mkX0_remove, rfl, prX0_remove, rfl, tw_1214, tw_1215, tw_1216, tw_2⟩
set_option maxRecDepth 100000 in
theorem prX0_hold : am_par rX0_hold 2 := by unfold am_par; decide +kernel
set_option maxRecDepth 100000 in
theorem mm_LiftGroup_Building_150 : am_mV "LiftGroup$Building" 150 rX0_hold "LiftGroup$Building" 2 := ⟨mkX0_hold, rfl, prX0_hold, rfl, tw_1218, tw_516, tw_517, tw_2⟩
set_option maxRecDepth 100000 in
theorem prX0_takeOutOfService : am_par rX0_takeOutOfService 1 := by unfold am_par; decide +kernel
set_option maxRecDepth 100000 in
theorem mm_LiftGroup_Building_153 : am_mV "LiftGroup$Building" 153 rX0_takeOutOfService "LiftGroup$Building" 1 := ⟨mkX0_takeOutOfService, rfl, prX0_takeOutOfService, rfl, tw_1219, tw_528, tw_529, tw_2⟩
set_option maxRecDepth 100000 in
theorem prX0_putInService : am_par rX0_putInService 1 := by unfold am_par; decide +kernel
set_option maxRecDepth 100000 in
theorem mm_LiftGroup_Building_156 : am_mV "LiftGroup$Building" 156 rX0_putInService "LiftGroup$Building" 1 := ⟨mkX0_putInService, rfl, prX0_putInService, rfl, tw_1220, tw_540, tw_541, tw_2⟩
set_option maxRecDepth 100000 in
theorem prX0_limit : am_par rX0_limit 2 := by unfold am_par; decide +kernel
set_option maxRecDepth 100000 in
theorem mm_LiftGroup_Building_159 : am_mV "LiftGroup$Building" 159 rX0_limit "LiftGroup$Building" 2 := ⟨mkX0_limit, rfl, prX0_limit, rfl, tw_1221, tw_552, tw_553, tw_2⟩
set_option maxRecDepth 100000 in
theorem mkX0_perform : am_mk rX0_perform := ⟨tw_1212, tw_2, by decide, by decide +kernel, by decide +kernel, by decide +kernel⟩
set_option maxRecDepth 100000 in
theorem mkX0_act : am_mk rX0_act := ⟨tw_574, tw_2, by decide, by decide +kernel, by decide +kernel, by decide +kernel⟩
set_option maxRecDepth 100000 in
theorem prX0_act : am_par rX0_act 1 := by unfold am_par; decide +kernel
set_option maxRecDepth 100000 in
theorem mm_LiftGroup_Building_165 : am_mV "LiftGroup$Building" 165 rX0_act "LiftGroup$Building" 1 := ⟨mkX0_act, rfl, prX0_act, rfl, tw_571, tw_573, tp_1, tw_2⟩
set_option maxRecDepth 100000 in
theorem mkX0_stopsOf : am_mk rX0_stopsOf := ⟨tw_500, tw_2, by decide, by decide +kernel, by decide +kernel, by decide +kernel⟩
set_option maxRecDepth 100000 in
theorem prX0_stopsOf : am_par rX0_stopsOf 1 := by unfold am_par; decide +kernel
set_option maxRecDepth 100000 in
theorem mm_LiftGroup_Building_169 : am_mV "LiftGroup$Building" 169 rX0_stopsOf "LiftGroup$Building" 1 := ⟨mkX0_stopsOf, rfl, prX0_stopsOf, rfl, tw_497, tw_498, tw_499, tw_2⟩
set_option maxRecDepth 100000 in
theorem ff_LiftGroup_Building_172 : am_F "LiftGroup$Building" 172 1 0 := ⟨RX1, TX1, 8, rfl, by decide, tw_89⟩
set_option maxRecDepth 100000 in
theorem mkX6_holds : am_mk rX6_holds := ⟨tw_577, tw_1, by decide, by decide +kernel, by decide +kernel, by decide +kernel⟩
set_option maxRecDepth 100000 in
theorem prX6_holds : am_par rX6_holds 2 := by unfold am_par; decide +kernel
set_option maxRecDepth 100000 in
theorem mm_LiftGroup_Building_175 : am_mSN "LiftGroup$Building" "LiftGroup" 175 rX6_holds 2 := ⟨mkX6_holds, rfl, prX6_holds, tn_575, tw_576⟩
set_option maxRecDepth 100000 in
theorem mkX6_directionToChoose : am_mk rX6_directionToChoose := ⟨tw_593, tw_1, by decide, by decide +kernel, by decide +kernel, by decide +kernel⟩
set_option maxRecDepth 100000 in
theorem prX6_directionToChoose : am_par rX6_directionToChoose 2 := by unfold am_par; decide +kernel
set_option maxRecDepth 100000 in
theorem mm_LiftGroup_Building_188 : am_mSN "LiftGroup$Building" "LiftGroup" 188 rX6_directionToChoose 2 := ⟨mkX6_directionToChoose, rfl, prX6_directionToChoose, tn_591, tw_592⟩
set_option maxRecDepth 100000 in
theorem ff_LiftGroup_Building_192 : am_F "LiftGroup$Building" 192 1 1 := ⟨RX1, TX1, 8, rfl, by decide, tw_92⟩
set_option maxRecDepth 100000 in
theorem mkX0_move : am_mk rX0_move := ⟨tw_600, tw_2, by decide, by decide +kernel, by decide +kernel, by decide +kernel⟩
set_option maxRecDepth 100000 in
theorem prX0_move : am_par rX0_move 1 := by unfold am_par; decide +kernel
set_option maxRecDepth 100000 in
theorem mm_LiftGroup_Building_195 : am_mV "LiftGroup$Building" 195 rX0_move "LiftGroup$Building" 1 := ⟨mkX0_move, rfl, prX0_move, rfl, tw_597, tw_599, tp_4, tw_2⟩
set_option maxRecDepth 100000 in
theorem ff_LiftGroup_Building_179 : am_F "LiftGroup$Building" 179 1 6 := ⟨RX1, TX1, 8, rfl, by decide, tw_107⟩
set_option maxRecDepth 100000 in
theorem mkX0_letOut : am_mk rX0_letOut := ⟨tw_582, tw_2, by decide, by decide +kernel, by decide +kernel, by decide +kernel⟩
set_option maxRecDepth 100000 in
theorem prX0_letOut : am_par rX0_letOut 1 := by unfold am_par; decide +kernel
set_option maxRecDepth 100000 in
theorem mm_LiftGroup_Building_182 : am_mV "LiftGroup$Building" 182 rX0_letOut "LiftGroup$Building" 1 := ⟨mkX0_letOut, rfl, prX0_letOut, rfl, tw_579, tw_581, tp_2, tw_2⟩
set_option maxRecDepth 100000 in
theorem mkX0_letIn : am_mk rX0_letIn := ⟨tw_590, tw_2, by decide, by decide +kernel, by decide +kernel, by decide +kernel⟩
set_option maxRecDepth 100000 in
theorem prX0_letIn : am_par rX0_letIn 1 := by unfold am_par; decide +kernel
set_option maxRecDepth 100000 in
theorem mm_LiftGroup_Building_185 : am_mV "LiftGroup$Building" 185 rX0_letIn "LiftGroup$Building" 1 := ⟨mkX0_letIn, rfl, prX0_letIn, rfl, tw_587, tw_589, tp_3, tw_2⟩
set_option maxRecDepth 100000 in
theorem ff_LiftGroup_Building_198 : am_F "LiftGroup$Building" 198 1 4 := ⟨RX1, TX1, 8, rfl, by decide, tw_101⟩
set_option maxRecDepth 100000 in
theorem mkX5_append : am_mk rX5_append := ⟨tw_586, tw_3, by decide, by decide +kernel, by decide +kernel, by decide +kernel⟩
set_option maxRecDepth 100000 in
theorem prX5_append : am_par rX5_append 3 := by unfold am_par; decide +kernel
set_option maxRecDepth 100000 in
theorem mm_LiftGroup_Building_201 : am_mV "LiftGroup$Building" 201 rX5_append "LiftGroup$TripLog" 3 := ⟨mkX5_append, rfl, prX5_append, rfl, tw_583, tw_584, tw_585, tw_3⟩
set_option maxRecDepth 100000 in
theorem mkX6_distanceToLast : am_mk rX6_distanceToLast := ⟨tw_503, tw_1, by decide, by decide +kernel, by decide +kernel, by decide +kernel⟩
set_option maxRecDepth 100000 in
theorem prX6_distanceToLast : am_par rX6_distanceToLast 3 := by unfold am_par; decide +kernel
set_option maxRecDepth 100000 in
theorem mm_LiftGroup_Building_210 : am_mSN "LiftGroup$Building" "LiftGroup" 210 rX6_distanceToLast 3 := ⟨mkX6_distanceToLast, rfl, prX6_distanceToLast, tn_501, tw_502⟩
set_option maxRecDepth 100000 in
theorem mkX0_estimateByFormula : am_mk rX0_estimateByFormula := ⟨tw_493, tw_2, by decide, by decide +kernel, by decide +kernel, by decide +kernel⟩
set_option maxRecDepth 100000 in
theorem mkJ6_compare_7cf53 : am_mk rJ6_compare_7cf53 := ⟨tw_702, tw_33, by decide, by decide +kernel, by decide +kernel, by decide +kernel⟩
set_option maxRecDepth 100000 in
theorem prJ6_compare_7cf53 : am_par rJ6_compare_7cf53 2 := by unfold am_par; decide +kernel
set_option maxRecDepth 100000 in
theorem mm_LiftGroup_Building_213 : am_mS "LiftGroup$Building" 213 rJ6_compare_7cf53 2 := ⟨mkJ6_compare_7cf53, prJ6_compare_7cf53, tw_700, tw_701⟩
set_option maxRecDepth 100000 in
theorem mkX6_distanceToFirst : am_mk rX6_distanceToFirst := ⟨tw_596, tw_1, by decide, by decide +kernel, by decide +kernel, by decide +kernel⟩
set_option maxRecDepth 100000 in
theorem prX6_distanceToFirst : am_par rX6_distanceToFirst 3 := by unfold am_par; decide +kernel
set_option maxRecDepth 100000 in
theorem mm_LiftGroup_Building_218 : am_mSN "LiftGroup$Building" "LiftGroup" 218 rX6_distanceToFirst 3 := ⟨mkX6_distanceToFirst, rfl, prX6_distanceToFirst, tn_703, tw_595⟩
set_option maxRecDepth 100000 in
theorem mkX0_estimateByMoving : am_mk rX0_estimateByMoving := ⟨tw_699, tw_2, by decide, by decide +kernel, by decide +kernel, by decide +kernel⟩
set_option maxRecDepth 100000 in
theorem prX0_estimateByFormula : am_par rX0_estimateByFormula 2 := by unfold am_par; decide +kernel
set_option maxRecDepth 100000 in
theorem mm_LiftGroup_Building_221 : am_mV "LiftGroup$Building" 221 rX0_estimateByFormula "LiftGroup$Building" 2 := ⟨mkX0_estimateByFormula, rfl, prX0_estimateByFormula, rfl, tw_490, tw_491, tw_492, tw_2⟩
set_option maxRecDepth 100000 in
theorem mkX0_indexOf : am_mk rX0_indexOf := ⟨tw_725, tw_2, by decide, by decide +kernel, by decide +kernel, by decide +kernel⟩
set_option maxRecDepth 100000 in
theorem prX0_indexOf : am_par rX0_indexOf 1 := by unfold am_par; decide +kernel
set_option maxRecDepth 100000 in
theorem mm_LiftGroup_Building_224 : am_mV "LiftGroup$Building" 224 rX0_indexOf "LiftGroup$Building" 1 := ⟨mkX0_indexOf, rfl, prX0_indexOf, rfl, tw_722, tw_723, tw_724, tw_2⟩
set_option maxRecDepth 100000 in
theorem mkX0_isRiding : am_mk rX0_isRiding := ⟨tw_721, tw_2, by decide, by decide +kernel, by decide +kernel, by decide +kernel⟩
set_option maxRecDepth 100000 in
theorem mkX0_countAssigned : am_mk rX0_countAssigned := ⟨tw_845, tw_2, by decide, by decide +kernel, by decide +kernel, by decide +kernel⟩
set_option maxRecDepth 100000 in
theorem mkX0_spendsBefore : am_mk rX0_spendsBefore := ⟨tw_749, tw_2, by decide, by decide +kernel, by decide +kernel, by decide +kernel⟩
set_option maxRecDepth 100000 in
theorem prX0_spendsBefore : am_par rX0_spendsBefore 2 := by unfold am_par; decide +kernel
set_option maxRecDepth 100000 in
theorem mm_LiftGroup_Building_230 : am_mV "LiftGroup$Building" 230 rX0_spendsBefore "LiftGroup$Building" 2 := ⟨mkX0_spendsBefore, rfl, prX0_spendsBefore, rfl, tw_746, tw_748, tp_6, tw_2⟩
set_option maxRecDepth 100000 in
theorem mkX0_countMoreEnergetic : am_mk rX0_countMoreEnergetic := ⟨tw_745, tw_2, by decide, by decide +kernel, by decide +kernel, by decide +kernel⟩
set_option maxRecDepth 100000 in
theorem mkX0_sumOfAccounts : am_mk rX0_sumOfAccounts := ⟨tw_783, tw_2, by decide, by decide +kernel, by decide +kernel, by decide +kernel⟩
set_option maxRecDepth 100000 in
theorem mkX0_energyOfMoves : am_mk rX0_energyOfMoves := ⟨tw_791, tw_2, by decide, by decide +kernel, by decide +kernel, by decide +kernel⟩
set_option maxRecDepth 100000 in
theorem prX0_estimateByMoving : am_par rX0_estimateByMoving 2 := by unfold am_par; decide +kernel
set_option maxRecDepth 100000 in
theorem mm_LiftGroup_Building_235 : am_mV "LiftGroup$Building" 235 rX0_estimateByMoving "LiftGroup$Building" 2 := ⟨mkX0_estimateByMoving, rfl, prX0_estimateByMoving, rfl, tw_833, tw_697, tw_698, tw_2⟩
set_option maxRecDepth 100000 in
theorem mkX0_estimatesAgree : am_mk rX0_estimatesAgree := ⟨tw_832, tw_2, by decide, by decide +kernel, by decide +kernel, by decide +kernel⟩
set_option maxRecDepth 100000 in
theorem mkX0_loadsFit : am_mk rX0_loadsFit := ⟨tw_837, tw_2, by decide, by decide +kernel, by decide +kernel, by decide +kernel⟩
set_option maxRecDepth 100000 in
theorem prX0_countAssigned : am_par rX0_countAssigned 1 := by unfold am_par; decide +kernel
set_option maxRecDepth 100000 in
theorem mm_LiftGroup_Building_238 : am_mV "LiftGroup$Building" 238 rX0_countAssigned "LiftGroup$Building" 1 := ⟨mkX0_countAssigned, rfl, prX0_countAssigned, rfl, tw_842, tw_843, tw_844, tw_2⟩
set_option maxRecDepth 100000 in
theorem mkX0_assignmentsServe : am_mk rX0_assignmentsServe := ⟨tw_841, tw_2, by decide, by decide +kernel, by decide +kernel, by decide +kernel⟩
set_option maxRecDepth 100000 in
theorem ff_LiftGroup_Car_9 : am_F "LiftGroup$Car" 9 1 0 := ⟨RX1, TX1, 8, rfl, by decide, tw_87⟩
set_option maxRecDepth 100000 in
theorem ff_LiftGroup_Car_15 : am_F "LiftGroup$Car" 15 1 1 := ⟨RX1, TX1, 8, rfl, by decide, tw_90⟩
set_option maxRecDepth 100000 in
theorem ff_LiftGroup_Car_18 : am_F "LiftGroup$Car" 18 1 2 := ⟨RX1, TX1, 8, rfl, by decide, tw_93⟩
set_option maxRecDepth 100000 in
theorem ff_LiftGroup_Car_21 : am_F "LiftGroup$Car" 21 1 3 := ⟨RX1, TX1, 8, rfl, by decide, tw_96⟩
set_option maxRecDepth 100000 in
theorem ff_LiftGroup_Car_24 : am_F "LiftGroup$Car" 24 1 4 := ⟨RX1, TX1, 8, rfl, by decide, tw_99⟩
set_option maxRecDepth 100000 in
theorem ff_LiftGroup_Car_27 : am_F "LiftGroup$Car" 27 1 5 := ⟨RX1, TX1, 8, rfl, by decide, tw_102⟩
set_option maxRecDepth 100000 in
theorem ff_LiftGroup_Car_30 : am_F "LiftGroup$Car" 30 1 6 := ⟨RX1, TX1, 8, rfl, by decide, tw_105⟩
set_option maxRecDepth 100000 in
theorem ff_LiftGroup_Car_33 : am_F "LiftGroup$Car" 33 1 7 := ⟨RX1, TX1, 8, rfl, by decide, tw_108⟩
set_option maxRecDepth 100000 in
theorem ff_LiftGroup_History_11 : am_F "LiftGroup$History" 11 2 0 := ⟨RX2, TX2, 3, rfl, by decide, tw_217⟩
set_option maxRecDepth 100000 in
theorem ff_LiftGroup_History_17 : am_F "LiftGroup$History" 17 2 1 := ⟨RX2, TX2, 3, rfl, by decide, tw_218⟩
set_option maxRecDepth 100000 in
theorem ff_LiftGroup_History_21 : am_F "LiftGroup$History" 21 2 2 := ⟨RX2, TX2, 3, rfl, by decide, tw_220⟩
set_option maxRecDepth 100000 in
theorem dv_0 : am_dv 0 := by
  intro k b hk q hq ty hty
  cases hq
  match k, hk, hty with
  | 0, hk, hty => cases hk; have e1 := pp_0_0 _ rfl; cases (e1.2.symm.trans hty); rfl
  | 1, hk, hty => cases hk; have e1 := pp_0_1 _ rfl; cases (e1.2.symm.trans hty); rfl
  | 2, hk, hty => cases hk; have e1 := pp_0_2 _ rfl; cases (e1.2.symm.trans hty); rfl
  | 3, hk, hty => cases hk; have e1 := pp_0_3 _ rfl; cases (e1.2.symm.trans hty); rfl
  | 4, hk, hty => cases hk; have e1 := pp_0_4 _ rfl; cases (e1.2.symm.trans hty); rfl
  | 5, hk, hty => cases hk; have e1 := pp_0_5 _ rfl; cases (e1.2.symm.trans hty); rfl
  | 6, hk, hty => cases hk; have e1 := pp_0_6 _ rfl; cases (e1.2.symm.trans hty); rfl
  | 7, hk, hty => cases hk; have e1 := pp_0_7 _ rfl; cases (e1.2.symm.trans hty); rfl
  | 8, hk, hty => cases hk; have e1 := pp_0_8 _ rfl; cases (e1.2.symm.trans hty); rfl
  | 9, hk, hty => cases hk; have e1 := pp_0_9 _ rfl; cases (e1.2.symm.trans hty); rfl
  | k + 10, hk, hty => simp [am_kd] at hk
set_option maxRecDepth 100000 in
theorem prX0_init : am_par rX0_init 0 := by unfold am_par; decide +kernel
set_option maxRecDepth 100000 in
theorem mm_LiftGroup_History_24 : am_mI "LiftGroup$History" 24 rX0_init 0 := ⟨mkX0_init, rfl, prX0_init, tw_216, tw_46, rfl, rfl⟩
set_option maxRecDepth 100000 in
theorem mkX2_init : am_mk rX2_init := ⟨tw_212, tw_6, by decide, by decide +kernel, by decide +kernel, by decide +kernel⟩
set_option maxRecDepth 100000 in
theorem prX0_copyFrom : am_par rX0_copyFrom 1 := by unfold am_par; decide +kernel
set_option maxRecDepth 100000 in
theorem mm_LiftGroup_History_25 : am_mV "LiftGroup$History" 25 rX0_copyFrom "LiftGroup$Building" 1 := ⟨mkX0_copyFrom, rfl, prX0_copyFrom, rfl, tw_460, tw_461, tw_462, tw_2⟩
set_option maxRecDepth 100000 in
theorem mkX2_remember : am_mk rX2_remember := ⟨tw_459, tw_6, by decide, by decide +kernel, by decide +kernel, by decide +kernel⟩
set_option maxRecDepth 100000 in
theorem mkX2_takeBack : am_mk rX2_takeBack := ⟨tw_1236, tw_6, by decide, by decide +kernel, by decide +kernel, by decide +kernel⟩
set_option maxRecDepth 100000 in
theorem ff_LiftGroup_Passenger_9 : am_F "LiftGroup$Passenger" 9 3 0 := ⟨RX3, TX3, 7, rfl, by decide, tw_133⟩
set_option maxRecDepth 100000 in
theorem ff_LiftGroup_Passenger_15 : am_F "LiftGroup$Passenger" 15 3 1 := ⟨RX3, TX3, 7, rfl, by decide, tw_136⟩
set_option maxRecDepth 100000 in
theorem ff_LiftGroup_Passenger_18 : am_F "LiftGroup$Passenger" 18 3 2 := ⟨RX3, TX3, 7, rfl, by decide, tw_139⟩
set_option maxRecDepth 100000 in
theorem ff_LiftGroup_Passenger_21 : am_F "LiftGroup$Passenger" 21 3 3 := ⟨RX3, TX3, 7, rfl, by decide, tw_142⟩
set_option maxRecDepth 100000 in
theorem ff_LiftGroup_Passenger_24 : am_F "LiftGroup$Passenger" 24 3 4 := ⟨RX3, TX3, 7, rfl, by decide, tw_145⟩
set_option maxRecDepth 100000 in
theorem ff_LiftGroup_Passenger_27 : am_F "LiftGroup$Passenger" 27 3 5 := ⟨RX3, TX3, 7, rfl, by decide, tw_148⟩
set_option maxRecDepth 100000 in
theorem ff_LiftGroup_Passenger_30 : am_F "LiftGroup$Passenger" 30 3 6 := ⟨RX3, TX3, 7, rfl, by decide, tw_151⟩
set_option maxRecDepth 100000 in
theorem dv_8 : am_dv 8 := by
  intro k b hk q hq ty hty
  cases hq
  match k, hk, hty with
  | 0, hk, hty => cases hk; have e1 := pp_8_0 _ rfl; cases (e1.2.symm.trans hty); rfl
  | 1, hk, hty => cases hk; have e1 := pp_8_1 _ rfl; cases (e1.2.symm.trans hty); rfl
  | 2, hk, hty => cases hk; have e1 := pp_8_2 _ rfl; cases (e1.2.symm.trans hty); rfl
  | 3, hk, hty => cases hk; have e1 := pp_8_3 _ rfl; cases (e1.2.symm.trans hty); rfl
  | k + 4, hk, hty => simp [am_kd] at hk
set_option maxRecDepth 100000 in
theorem mkJ4_init_da8c8 : am_mk rJ4_init_da8c8 := ⟨tw_238, tw_9, by decide, by decide +kernel, by decide +kernel, by decide +kernel⟩
set_option maxRecDepth 100000 in
theorem prJ4_init_da8c8 : am_par rJ4_init_da8c8 0 := by unfold am_par; decide +kernel
set_option maxRecDepth 100000 in
theorem mm_LiftGroup_Script_11 : am_mI "LiftGroup$Script" 11 rJ4_init_da8c8 0 := ⟨mkJ4_init_da8c8, rfl, prJ4_init_da8c8, tw_236, tw_237, rfl, rfl⟩
set_option maxRecDepth 100000 in
theorem ff_LiftGroup_Script_12 : am_F "LiftGroup$Script" 12 4 0 := ⟨RX4, TX4, 5, rfl, by decide, tw_269⟩
set_option maxRecDepth 100000 in
theorem ff_LiftGroup_Script_18 : am_F "LiftGroup$Script" 18 4 1 := ⟨RX4, TX4, 5, rfl, by decide, tw_271⟩
set_option maxRecDepth 100000 in
theorem ts_LiftGroup_Script_48 : ("LiftGroup$Script", 48, "step") ∈ am_st := by decide +kernel
set_option maxRecDepth 100000 in
theorem ts_LiftGroup_Script_34 : ("LiftGroup$Script", 34, "call 0 0 N") ∈ am_st := by decide +kernel
set_option maxRecDepth 100000 in
theorem ts_LiftGroup_Script_36 : ("LiftGroup$Script", 36, "leave N") ∈ am_st := by decide +kernel
set_option maxRecDepth 100000 in
theorem ts_LiftGroup_Script_38 : ("LiftGroup$Script", 38, "hold 0 0") ∈ am_st := by decide +kernel
set_option maxRecDepth 100000 in
theorem ts_LiftGroup_Script_40 : ("LiftGroup$Script", 40, "stop 0") ∈ am_st := by decide +kernel
set_option maxRecDepth 100000 in
theorem ts_LiftGroup_Script_42 : ("LiftGroup$Script", 42, "start 0") ∈ am_st := by decide +kernel
set_option maxRecDepth 100000 in
theorem ts_LiftGroup_Script_44 : ("LiftGroup$Script", 44, "limit 0 N") ∈ am_st := by decide +kernel
set_option maxRecDepth 100000 in
theorem ts_LiftGroup_Script_46 : ("LiftGroup$Script", 46, "step N") ∈ am_st := by decide +kernel
set_option maxRecDepth 100000 in
theorem mkX4_formOf : am_mk rX4_formOf := ⟨tw_864, tw_7, by decide, by decide +kernel, by decide +kernel, by decide +kernel⟩
set_option maxRecDepth 100000 in
theorem ff_LiftGroup_Script_27 : am_F "LiftGroup$Script" 27 4 3 := ⟨RX4, TX4, 5, rfl, by decide, tw_275⟩
set_option maxRecDepth 100000 in
theorem mkX4_endOfCommand : am_mk rX4_endOfCommand := ⟨tw_857, tw_7, by decide, by decide +kernel, by decide +kernel, by decide +kernel⟩
set_option maxRecDepth 100000 in
theorem prX4_endOfCommand : am_par rX4_endOfCommand 1 := by unfold am_par; decide +kernel
set_option maxRecDepth 100000 in
theorem mm_LiftGroup_Script_50 : am_mV "LiftGroup$Script" 50 rX4_endOfCommand "LiftGroup$Script" 1 := ⟨mkX4_endOfCommand, rfl, prX4_endOfCommand, rfl, tw_854, tw_856, tp_8, tw_7⟩
set_option maxRecDepth 100000 in
theorem mkJ4_length_8abf5 : am_mk rJ4_length_8abf5 := ⟨tw_927, tw_9, by decide, by decide +kernel, by decide +kernel, by decide +kernel⟩
set_option maxRecDepth 100000 in
theorem prJ4_length_8abf5 : am_par rJ4_length_8abf5 0 := by unfold am_par; decide +kernel
set_option maxRecDepth 100000 in
theorem mm_LiftGroup_Script_54 : am_mV "LiftGroup$Script" 54 rJ4_length_8abf5 "java/lang/StringBuilder" 0 := ⟨mkJ4_length_8abf5, rfl, prJ4_length_8abf5, rfl, tw_924, tw_925, tw_926, tw_9⟩
set_option maxRecDepth 100000 in
theorem ff_LiftGroup_Script_31 : am_F "LiftGroup$Script" 31 4 4 := ⟨RX4, TX4, 5, rfl, by decide, tw_277⟩
set_option maxRecDepth 100000 in
theorem mkX4_read : am_mk rX4_read := ⟨tw_853, tw_7, by decide, by decide +kernel, by decide +kernel, by decide +kernel⟩
set_option maxRecDepth 100000 in
theorem mkX4_endOfForm : am_mk rX4_endOfForm := ⟨tw_861, tw_7, by decide, by decide +kernel, by decide +kernel, by decide +kernel⟩
set_option maxRecDepth 100000 in
theorem prX4_endOfForm : am_par rX4_endOfForm 2 := by unfold am_par; decide +kernel
set_option maxRecDepth 100000 in
theorem mm_LiftGroup_Script_58 : am_mV "LiftGroup$Script" 58 rX4_endOfForm "LiftGroup$Script" 2 := ⟨mkX4_endOfForm, rfl, prX4_endOfForm, rfl, tw_858, tw_860, tp_9, tw_7⟩
set_option maxRecDepth 100000 in
theorem prX4_formOf : am_par rX4_formOf 1 := by unfold am_par; decide +kernel
set_option maxRecDepth 100000 in
theorem mm_LiftGroup_Script_62 : am_mS "LiftGroup$Script" 62 rX4_formOf 1 := ⟨mkX4_formOf, prX4_formOf, tw_862, tw_863⟩
set_option maxRecDepth 100000 in
theorem mkJ0_length_8abf5 : am_mk rJ0_length_8abf5 := ⟨tw_876, tw_10, by decide, by decide +kernel, by decide +kernel, by decide +kernel⟩
set_option maxRecDepth 100000 in
theorem prJ0_length_8abf5 : am_par rJ0_length_8abf5 0 := by unfold am_par; decide +kernel
set_option maxRecDepth 100000 in
theorem mm_LiftGroup_Script_66 : am_mV "LiftGroup$Script" 66 rJ0_length_8abf5 "java/lang/String" 0 := ⟨mkJ0_length_8abf5, rfl, prJ0_length_8abf5, rfl, tw_873, tw_874, tw_875, tw_10⟩
set_option maxRecDepth 100000 in
theorem mkJ4_charAt_5068e : am_mk rJ4_charAt_5068e := ⟨tw_934, tw_9, by decide, by decide +kernel, by decide +kernel, by decide +kernel⟩
set_option maxRecDepth 100000 in
theorem prJ4_charAt_5068e : am_par rJ4_charAt_5068e 1 := by unfold am_par; decide +kernel
set_option maxRecDepth 100000 in
theorem mm_LiftGroup_Script_79 : am_mV "LiftGroup$Script" 79 rJ4_charAt_5068e "java/lang/StringBuilder" 1 := ⟨mkJ4_charAt_5068e, rfl, prJ4_charAt_5068e, rfl, tw_931, tw_932, tw_933, tw_9⟩
set_option maxRecDepth 100000 in
theorem mkX4_breakOff : am_mk rX4_breakOff := ⟨tw_948, tw_7, by decide, by decide +kernel, by decide +kernel, by decide +kernel⟩
set_option maxRecDepth 100000 in
theorem prX4_breakOff : am_par rX4_breakOff 1 := by unfold am_par; decide +kernel
set_option maxRecDepth 100000 in
theorem mm_LiftGroup_Script_80 : am_mV "LiftGroup$Script" 80 rX4_breakOff "LiftGroup$Script" 1 := ⟨mkX4_breakOff, rfl, prX4_breakOff, rfl, tw_945, tw_947, tp_12, tw_7⟩
set_option maxRecDepth 100000 in
theorem mkJ0_charAt_5068e : am_mk rJ0_charAt_5068e := ⟨tw_885, tw_10, by decide, by decide +kernel, by decide +kernel, by decide +kernel⟩
set_option maxRecDepth 100000 in
theorem prJ0_charAt_5068e : am_par rJ0_charAt_5068e 1 := by unfold am_par; decide +kernel
set_option maxRecDepth 100000 in
theorem mm_LiftGroup_Script_69 : am_mV "LiftGroup$Script" 69 rJ0_charAt_5068e "java/lang/String" 1 := ⟨mkJ0_charAt_5068e, rfl, prJ0_charAt_5068e, rfl, tw_882, tw_883, tw_884, tw_10⟩
set_option maxRecDepth 100000 in
theorem mkX4_endOfDigits : am_mk rX4_endOfDigits := ⟨tw_923, tw_7, by decide, by decide +kernel, by decide +kernel, by decide +kernel⟩
set_option maxRecDepth 100000 in
theorem prX4_endOfDigits : am_par rX4_endOfDigits 2 := by unfold am_par; decide +kernel
set_option maxRecDepth 100000 in
theorem mm_LiftGroup_Script_73 : am_mV "LiftGroup$Script" 73 rX4_endOfDigits "LiftGroup$Script" 2 := ⟨mkX4_endOfDigits, rfl, prX4_endOfDigits, rfl, tw_920, tw_922, tp_10, tw_7⟩
set_option maxRecDepth 100000 in
theorem ff_LiftGroup_Script_24 : am_F "LiftGroup$Script" 24 4 2 := ⟨RX4, TX4, 5, rfl, by decide, tw_273⟩
set_option maxRecDepth 100000 in
theorem mkX4_valueOf : am_mk rX4_valueOf := ⟨tw_944, tw_7, by decide, by decide +kernel, by decide +kernel, by decide +kernel⟩
set_option maxRecDepth 100000 in
theorem prX4_valueOf : am_par rX4_valueOf 2 := by unfold am_par; decide +kernel
set_option maxRecDepth 100000 in
theorem mm_LiftGroup_Script_76 : am_mV "LiftGroup$Script" 76 rX4_valueOf "LiftGroup$Script" 2 := ⟨mkX4_valueOf, rfl, prX4_valueOf, rfl, tw_941, tw_943, tp_11, tw_7⟩
set_option maxRecDepth 100000 in
theorem ff_LiftGroup_TripLog_9 : am_F "LiftGroup$TripLog" 9 5 0 := ⟨RX5, TX5, 5, rfl, by decide, tw_59⟩
set_option maxRecDepth 100000 in
theorem ff_LiftGroup_TripLog_15 : am_F "LiftGroup$TripLog" 15 5 1 := ⟨RX5, TX5, 5, rfl, by decide, tw_61⟩
set_option maxRecDepth 100000 in
theorem ff_LiftGroup_TripLog_18 : am_F "LiftGroup$TripLog" 18 5 2 := ⟨RX5, TX5, 5, rfl, by decide, tw_63⟩
set_option maxRecDepth 100000 in
theorem ff_LiftGroup_TripLog_21 : am_F "LiftGroup$TripLog" 21 5 3 := ⟨RX5, TX5, 5, rfl, by decide, tw_65⟩
set_option maxRecDepth 100000 in
theorem ff_LiftGroup_TripLog_25 : am_F "LiftGroup$TripLog" 25 5 4 := ⟨RX5, TX5, 5, rfl, by decide, tw_68⟩
set_option maxRecDepth 100000 in
theorem mkX5_remembers : am_mk rX5_remembers := ⟨tw_762, tw_3, by decide, by decide +kernel, by decide +kernel, by decide +kernel⟩
set_option maxRecDepth 100000 in
theorem mkX5_placeOf : am_mk rX5_placeOf := ⟨tw_767, tw_3, by decide, by decide +kernel, by decide +kernel, by decide +kernel⟩
set_option maxRecDepth 100000 in
theorem mm_LiftGroup_11 : am_mI "LiftGroup" 11 rX0_init 0 := ⟨mkX0_init, rfl, prX0_init, tw_45, tw_46, rfl, rfl⟩
set_option maxRecDepth 100000 in
theorem ff_LiftGroup_12 : am_F "LiftGroup" 12 6 0 := ⟨RX6, TX6, 9, rfl, by decide, tw_291⟩
set_option maxRecDepth 100000 in
theorem ff_LiftGroup_16 : am_F "LiftGroup" 16 6 1 := ⟨RX6, TX6, 9, rfl, by decide, tw_292⟩
set_option maxRecDepth 100000 in
theorem ff_LiftGroup_19 : am_F "LiftGroup" 19 6 2 := ⟨RX6, TX6, 9, rfl, by decide, tw_293⟩
set_option maxRecDepth 100000 in
theorem dv_2 : am_dv 2 := by
  intro k b hk q hq ty hty
  cases hq
  match k, hk, hty with
  | 0, hk, hty => cases hk; have e1 := pp_2_0 _ rfl; cases (e1.2.symm.trans hty); rfl
  | 1, hk, hty => cases hk; have e1 := pp_2_1 _ rfl; cases (e1.2.symm.trans hty); rfl
  | 2, hk, hty => cases hk; have e1 := pp_2_2 _ rfl; cases (e1.2.symm.trans hty); rfl
  | k + 3, hk, hty => simp [am_kd] at hk
set_option maxRecDepth 100000 in
theorem prX2_init : am_par rX2_init 0 := by unfold am_par; decide +kernel
set_option maxRecDepth 100000 in
theorem mm_LiftGroup_24 : am_mI "LiftGroup" 24 rX2_init 0 := ⟨mkX2_init, rfl, prX2_init, tw_210, tw_211, rfl, rfl⟩
set_option maxRecDepth 100000 in
theorem ff_LiftGroup_25 : am_F "LiftGroup" 25 6 3 := ⟨RX6, TX6, 9, rfl, by decide, tw_294⟩
set_option maxRecDepth 100000 in
theorem dv_4 : am_dv 4 := by
  intro k b hk q hq ty hty
  cases hq
  match k, hk, hty with
  | 0, hk, hty => cases hk; have e1 := pp_4_0 _ rfl; cases (e1.2.symm.trans hty); rfl
  | 1, hk, hty => cases hk; have e1 := pp_4_1 _ rfl; cases (e1.2.symm.trans hty); rfl
  | 2, hk, hty => cases hk; have e1 := pp_4_2 _ rfl; cases (e1.2.symm.trans hty); rfl
  | 3, hk, hty => cases hk; have e1 := pp_4_3 _ rfl; cases (e1.2.symm.trans hty); rfl
  | 4, hk, hty => cases hk; have e1 := pp_4_4 _ rfl; cases (e1.2.symm.trans hty); rfl
  | k + 5, hk, hty => simp [am_kd] at hk
set_option maxRecDepth 100000 in
theorem mkX4_init : am_mk rX4_init := ⟨tw_232, tw_7, by decide, by decide +kernel, by decide +kernel, by decide +kernel⟩
set_option maxRecDepth 100000 in
theorem prX4_init : am_par rX4_init 0 := by unfold am_par; decide +kernel
set_option maxRecDepth 100000 in
theorem mm_LiftGroup_31 : am_mIN "LiftGroup" "LiftGroup" 31 rX4_init 0 := ⟨mkX4_init, rfl, prX4_init, tn_230, tw_231, rfl, rfl⟩
set_option maxRecDepth 100000 in
theorem ff_LiftGroup_32 : am_F "LiftGroup" 32 6 4 := ⟨RX6, TX6, 9, rfl, by decide, tw_295⟩
set_option maxRecDepth 100000 in
theorem mm_LiftGroup_38 : am_mI "LiftGroup" 38 rJ4_init_da8c8 0 := ⟨mkJ4_init_da8c8, rfl, prJ4_init_da8c8, tw_290, tw_237, rfl, rfl⟩
set_option maxRecDepth 100000 in
theorem ff_LiftGroup_39 : am_F "LiftGroup" 39 6 5 := ⟨RX6, TX6, 9, rfl, by decide, tw_296⟩
set_option maxRecDepth 100000 in
theorem ff_LiftGroup_43 : am_F "LiftGroup" 43 6 6 := ⟨RX6, TX6, 9, rfl, by decide, tw_297⟩
set_option maxRecDepth 100000 in
theorem ff_LiftGroup_47 : am_F "LiftGroup" 47 6 7 := ⟨RX6, TX6, 9, rfl, by decide, tw_298⟩
set_option maxRecDepth 100000 in
theorem ff_LiftGroup_51 : am_F "LiftGroup" 51 6 8 := ⟨RX6, TX6, 9, rfl, by decide, tw_299⟩
set_option maxRecDepth 100000 in
theorem mkX6_init : am_mk rX6_init := ⟨tw_39, tw_1, by decide, by decide +kernel, by decide +kernel, by decide +kernel⟩
set_option maxRecDepth 100000 in
theorem mm_LiftGroup_54 : am_mV "LiftGroup" 54 rX0_refusalToAdd "LiftGroup$Building" 3 := ⟨mkX0_refusalToAdd, rfl, prX0_refusalToAdd, rfl, tw_323, tw_324, tw_325, tw_2⟩
set_option maxRecDepth 100000 in
theorem mkX6_throwIfRefused : am_mk rX6_throwIfRefused := ⟨tw_335, tw_1, by decide, by decide +kernel, by decide +kernel, by decide +kernel⟩
set_option maxRecDepth 100000 in
theorem prX6_throwIfRefused : am_par rX6_throwIfRefused 1 := by unfold am_par; decide +kernel
set_option maxRecDepth 100000 in
theorem mm_LiftGroup_58 : am_mS "LiftGroup" 58 rX6_throwIfRefused 1 := ⟨mkX6_throwIfRefused, prX6_throwIfRefused, tw_333, tw_334⟩
set_option maxRecDepth 100000 in
theorem prX2_remember : am_par rX2_remember 1 := by unfold am_par; decide +kernel
set_option maxRecDepth 100000 in
theorem mm_LiftGroup_62 : am_mV "LiftGroup" 62 rX2_remember "LiftGroup$History" 1 := ⟨mkX2_remember, rfl, prX2_remember, rfl, tw_456, tw_457, tw_458, tw_6⟩
set_option maxRecDepth 100000 in
theorem mm_LiftGroup_66 : am_mV "LiftGroup" 66 rX0_add "LiftGroup$Building" 3 := ⟨mkX0_add, rfl, prX0_add, rfl, tw_482, tw_483, tw_484, tw_2⟩
set_option maxRecDepth 100000 in
theorem mkX6_addPassenger : am_mk rX6_addPassenger := ⟨tw_322, tw_1, by decide, by decide +kernel, by decide +kernel, by decide +kernel⟩
set_option maxRecDepth 100000 in
theorem mm_LiftGroup_69 : am_mV "LiftGroup" 69 rX0_refusalToRemove "LiftGroup$Building" 1 := ⟨mkX0_refusalToRemove, rfl, prX0_refusalToRemove, rfl, tw_1290, tw_1199, tw_1200, tw_2⟩
set_option maxRecDepth 100000 in
theorem mm_LiftGroup_73 : am_mV "LiftGroup" 73 rX0_remove "LiftGroup$Building" 1 := ⟨mkX0_remove, rfl, prX0_remove, rfl, tw_1291, tw_1215, tw_1216, tw_2⟩
set_option maxRecDepth 100000 in
theorem mkX6_removePassenger : am_mk rX6_removePassenger := ⟨tw_1289, tw_1, by decide, by decide +kernel, by decide +kernel, by decide +kernel⟩
set_option maxRecDepth 100000 in
theorem mm_LiftGroup_76 : am_mV "LiftGroup" 76 rX0_refusalToHold "LiftGroup$Building" 2 := ⟨mkX0_refusalToHold, rfl, prX0_refusalToHold, rfl, tw_508, tw_509, tw_510, tw_2⟩
set_option maxRecDepth 100000 in
theorem mm_LiftGroup_80 : am_mV "LiftGroup" 80 rX0_hold "LiftGroup$Building" 2 := ⟨mkX0_hold, rfl, prX0_hold, rfl, tw_515, tw_516, tw_517, tw_2⟩
set_option maxRecDepth 100000 in
theorem mkX6_holdDoors : am_mk rX6_holdDoors := ⟨tw_507, tw_1, by decide, by decide +kernel, by decide +kernel, by decide +kernel⟩
set_option maxRecDepth 100000 in
theorem mm_LiftGroup_83 : am_mV "LiftGroup" 83 rX0_refusalToStop "LiftGroup$Building" 1 := ⟨mkX0_refusalToStop, rfl, prX0_refusalToStop, rfl, tw_523, tw_524, tw_525, tw_2⟩
set_option maxRecDepth 100000 in
theorem mm_LiftGroup_86 : am_mV "LiftGroup" 86 rX0_takeOutOfService "LiftGroup$Building" 1 := ⟨mkX0_takeOutOfService, rfl, prX0_takeOutOfService, rfl, tw_527, tw_528, tw_529, tw_2⟩
set_option maxRecDepth 100000 in
theorem mkX6_stopCar : am_mk rX6_stopCar := ⟨tw_522, tw_1, by decide, by decide +kernel, by decide +kernel, by decide +kernel⟩
set_option maxRecDepth 100000 in
theorem mm_LiftGroup_89 : am_mV "LiftGroup" 89 rX0_refusalToStart "LiftGroup$Building" 1 := ⟨mkX0_refusalToStart, rfl, prX0_refusalToStart, rfl, tw_535, tw_536, tw_537, tw_2⟩
set_option maxRecDepth 100000 in
theorem mm_LiftGroup_92 : am_mV "LiftGroup" 92 rX0_putInService "LiftGroup$Building" 1 := ⟨mkX0_putInService, rfl, prX0_putInService, rfl, tw_539, tw_540, tw_541, tw_2⟩
set_option maxRecDepth 100000 in
theorem mkX6_startCar : am_mk rX6_startCar := ⟨tw_534, tw_1, by decide, by decide +kernel, by decide +kernel, by decide +kernel⟩
set_option maxRecDepth 100000 in
theorem mm_LiftGroup_95 : am_mV "LiftGroup" 95 rX0_refusalToLimit "LiftGroup$Building" 2 := ⟨mkX0_refusalToLimit, rfl, prX0_refusalToLimit, rfl, tw_547, tw_548, tw_549, tw_2⟩
set_option maxRecDepth 100000 in
theorem mm_LiftGroup_98 : am_mV "LiftGroup" 98 rX0_limit "LiftGroup$Building" 2 := ⟨mkX0_limit, rfl, prX0_limit, rfl, tw_551, tw_552, tw_553, tw_2⟩
set_option maxRecDepth 100000 in
theorem mkX6_setCapacity : am_mk rX6_setCapacity := ⟨tw_546, tw_1, by decide, by decide +kernel, by decide +kernel, by decide +kernel⟩
set_option maxRecDepth 100000 in
theorem mm_LiftGroup_101 : am_mV "LiftGroup" 101 rX0_refusalToPass "LiftGroup$Building" 1 := ⟨mkX0_refusalToPass, rfl, prX0_refusalToPass, rfl, tw_559, tw_560, tw_561, tw_2⟩
set_option maxRecDepth 100000 in
theorem mm_LiftGroup_104 : am_mV "LiftGroup" 104 rX0_letPass "LiftGroup$Building" 1 := ⟨mkX0_letPass, rfl, prX0_letPass, rfl, tw_563, tw_564, tw_565, tw_2⟩
set_option maxRecDepth 100000 in
theorem mkX6_advance : am_mk rX6_advance := ⟨tw_558, tw_1, by decide, by decide +kernel, by decide +kernel, by decide +kernel⟩
set_option maxRecDepth 100000 in
theorem ff_LiftGroup_107 : am_F "LiftGroup" 107 0 5 := ⟨RX0, TX0, 10, rfl, by decide, tw_179⟩
set_option maxRecDepth 100000 in
theorem mkX6_time : am_mk rX6_time := ⟨tw_1299, tw_1, by decide, by decide +kernel, by decide +kernel, by decide +kernel⟩
set_option maxRecDepth 100000 in
theorem mkX6_checkCar : am_mk rX6_checkCar := ⟨tw_607, tw_1, by decide, by decide +kernel, by decide +kernel, by decide +kernel⟩
set_option maxRecDepth 100000 in
theorem prX6_checkCar : am_par rX6_checkCar 1 := by unfold am_par; decide +kernel
set_option maxRecDepth 100000 in
theorem mm_LiftGroup_110 : am_mS "LiftGroup" 110 rX6_checkCar 1 := ⟨mkX6_checkCar, prX6_checkCar, tw_605, tw_606⟩
set_option maxRecDepth 100000 in
theorem ff_LiftGroup_113 : am_F "LiftGroup" 113 0 0 := ⟨RX0, TX0, 10, rfl, by decide, tw_170⟩
set_option maxRecDepth 100000 in
theorem ff_LiftGroup_117 : am_F "LiftGroup" 117 1 0 := ⟨RX1, TX1, 8, rfl, by decide, tw_88⟩
set_option maxRecDepth 100000 in
theorem mkX6_floor : am_mk rX6_floor := ⟨tw_604, tw_1, by decide, by decide +kernel, by decide +kernel, by decide +kernel⟩
set_option maxRecDepth 100000 in
theorem ff_LiftGroup_122 : am_F "LiftGroup" 122 1 1 := ⟨RX1, TX1, 8, rfl, by decide, tw_91⟩
set_option maxRecDepth 100000 in
theorem mkX6_direction : am_mk rX6_direction := ⟨tw_613, tw_1, by decide, by decide +kernel, by decide +kernel, by decide +kernel⟩
set_option maxRecDepth 100000 in
theorem ff_LiftGroup_125 : am_F "LiftGroup" 125 1 2 := ⟨RX1, TX1, 8, rfl, by decide, tw_94⟩
set_option maxRecDepth 100000 in
theorem mkX6_capacity : am_mk rX6_capacity := ⟨tw_1311, tw_1, by decide, by decide +kernel, by decide +kernel, by decide +kernel⟩
set_option maxRecDepth 100000 in
theorem ff_LiftGroup_128 : am_F "LiftGroup" 128 1 3 := ⟨RX1, TX1, 8, rfl, by decide, tw_97⟩
set_option maxRecDepth 100000 in
theorem mkX6_load : am_mk rX6_load := ⟨tw_617, tw_1, by decide, by decide +kernel, by decide +kernel, by decide +kernel⟩
set_option maxRecDepth 100000 in
theorem ff_LiftGroup_131 : am_F "LiftGroup" 131 1 4 := ⟨RX1, TX1, 8, rfl, by decide, tw_100⟩
set_option maxRecDepth 100000 in
theorem mkX6_passengersIn : am_mk rX6_passengersIn := ⟨tw_621, tw_1, by decide, by decide +kernel, by decide +kernel, by decide +kernel⟩
set_option maxRecDepth 100000 in
theorem ff_LiftGroup_137 : am_F "LiftGroup" 137 1 5 := ⟨RX1, TX1, 8, rfl, by decide, tw_104⟩
set_option maxRecDepth 100000 in
theorem mkX6_doorSteps : am_mk rX6_doorSteps := ⟨tw_625, tw_1, by decide, by decide +kernel, by decide +kernel, by decide +kernel⟩
set_option maxRecDepth 100000 in
theorem ff_LiftGroup_140 : am_F "LiftGroup" 140 1 7 := ⟨RX1, TX1, 8, rfl, by decide, tw_110⟩
set_option maxRecDepth 100000 in
theorem mkX6_isInService : am_mk rX6_isInService := ⟨tw_1315, tw_1, by decide, by decide +kernel, by decide +kernel, by decide +kernel⟩
set_option maxRecDepth 100000 in
theorem ff_LiftGroup_143 : am_F "LiftGroup" 143 1 6 := ⟨RX1, TX1, 8, rfl, by decide, tw_106⟩
set_option maxRecDepth 100000 in
theorem mkX6_energy : am_mk rX6_energy := ⟨tw_629, tw_1, by decide, by decide +kernel, by decide +kernel, by decide +kernel⟩
set_option maxRecDepth 100000 in
theorem mm_LiftGroup_149 : am_mV "LiftGroup" 149 rX0_stopsOf "LiftGroup$Building" 1 := ⟨mkX0_stopsOf, rfl, prX0_stopsOf, rfl, tw_634, tw_498, tw_499, tw_2⟩
set_option maxRecDepth 100000 in
theorem mm_LiftGroup_152 : am_mS "LiftGroup" 152 rX6_holds 2 := ⟨mkX6_holds, prX6_holds, tw_651, tw_576⟩
set_option maxRecDepth 100000 in
theorem mm_LiftGroup_168 : am_mS "LiftGroup" 168 rX6_directionToChoose 2 := ⟨mkX6_directionToChoose, prX6_directionToChoose, tw_652, tw_592⟩
set_option maxRecDepth 100000 in
theorem mm_LiftGroup_172 : am_mS "LiftGroup" 172 rX6_distanceToFirst 3 := ⟨mkX6_distanceToFirst, prX6_distanceToFirst, tw_594, tw_595⟩
set_option maxRecDepth 100000 in
theorem tf_NoSuchElementException : Bundle.fit "java/util/NoSuchElementException" = true ∧ (∀ n ∈ (["java/lang/RuntimeException", "java/lang/Exception"] : List String), Bundle.fit n = true) ∧ (["java/lang/RuntimeException", "java/lang/Exception"] : List String).length ≤ 3 := by decide +kernel
set_option maxRecDepth 100000 in
theorem tx_NoSuchElementException : tx_x prog_45_method_4_code 13 := by refine ⟨?_, ?_, ?_, ?_⟩ <;> decide +kernel
set_option maxRecDepth 100000 in
theorem ta_LiftGroup_165_161 : (∀ w ∈ (tx_own "LiftGroup" 165 "java/util/NoSuchElementException" 13 prog_45_method_4_code ["java/lang/RuntimeException", "java/lang/Exception"]).filter vx_no, w ∈ am_gt ∨ w ∈ am_nw ∨ tx_dc w = true) ∧ ∀ w ∈ Cond.classLink "LiftGroup" 161 "java/util/NoSuchElementException" :: Cond.initialized "java/util/NoSuchElementException" :: (tx_own "LiftGroup" 165 "java/util/NoSuchElementException" 13 prog_45_method_4_code ["java/lang/RuntimeException", "java/lang/Exception"]).filter vx_no, vx_ot w = true := by decide +kernel
set_option maxRecDepth 100000 in
theorem ts_LiftGroup_163 : ("LiftGroup", 163, "the car has no stops") ∈ am_st := by decide +kernel
set_option maxRecDepth 100000 in
theorem mkX6_nextStop : am_mk rX6_nextStop := ⟨tw_633, tw_1, by decide, by decide +kernel, by decide +kernel, by decide +kernel⟩
set_option maxRecDepth 100000 in
theorem ff_LiftGroup_175 : am_F "LiftGroup" 175 0 3 := ⟨RX0, TX0, 10, rfl, by decide, tw_176⟩
set_option maxRecDepth 100000 in
theorem mkX6_passengerCount : am_mk rX6_passengerCount := ⟨tw_656, tw_1, by decide, by decide +kernel, by decide +kernel, by decide +kernel⟩
set_option maxRecDepth 100000 in
theorem mkX6_checkPassenger : am_mk rX6_checkPassenger := ⟨tw_664, tw_1, by decide, by decide +kernel, by decide +kernel, by decide +kernel⟩
set_option maxRecDepth 100000 in
theorem prX6_checkPassenger : am_par rX6_checkPassenger 1 := by unfold am_par; decide +kernel
set_option maxRecDepth 100000 in
theorem mm_LiftGroup_178 : am_mV "LiftGroup" 178 rX6_checkPassenger "LiftGroup" 1 := ⟨mkX6_checkPassenger, rfl, prX6_checkPassenger, rfl, tw_661, tw_663, tp_5, tw_1⟩
set_option maxRecDepth 100000 in
theorem ff_LiftGroup_181 : am_F "LiftGroup" 181 0 1 := ⟨RX0, TX0, 10, rfl, by decide, tw_172⟩
set_option maxRecDepth 100000 in
theorem ff_LiftGroup_185 : am_F "LiftGroup" 185 3 0 := ⟨RX3, TX3, 7, rfl, by decide, tw_135⟩
set_option maxRecDepth 100000 in
theorem mkX6_number : am_mk rX6_number := ⟨tw_660, tw_1, by decide, by decide +kernel, by decide +kernel, by decide +kernel⟩
set_option maxRecDepth 100000 in
theorem ff_LiftGroup_190 : am_F "LiftGroup" 190 3 1 := ⟨RX3, TX3, 7, rfl, by decide, tw_138⟩
set_option maxRecDepth 100000 in
theorem mkX6_start : am_mk rX6_start := ⟨tw_1351, tw_1, by decide, by decide +kernel, by decide +kernel, by decide +kernel⟩
set_option maxRecDepth 100000 in
theorem ff_LiftGroup_193 : am_F "LiftGroup" 193 3 2 := ⟨RX3, TX3, 7, rfl, by decide, tw_141⟩
set_option maxRecDepth 100000 in
theorem mkX6_destination : am_mk rX6_destination := ⟨tw_1355, tw_1, by decide, by decide +kernel, by decide +kernel, by decide +kernel⟩
set_option maxRecDepth 100000 in
theorem ff_LiftGroup_196 : am_F "LiftGroup" 196 3 3 := ⟨RX3, TX3, 7, rfl, by decide, tw_144⟩
set_option maxRecDepth 100000 in
theorem mkX6_weight : am_mk rX6_weight := ⟨tw_1359, tw_1, by decide, by decide +kernel, by decide +kernel, by decide +kernel⟩
set_option maxRecDepth 100000 in
theorem ff_LiftGroup_199 : am_F "LiftGroup" 199 3 4 := ⟨RX3, TX3, 7, rfl, by decide, tw_147⟩
set_option maxRecDepth 100000 in
theorem mkX6_waitingTime : am_mk rX6_waitingTime := ⟨tw_673, tw_1, by decide, by decide +kernel, by decide +kernel, by decide +kernel⟩
set_option maxRecDepth 100000 in
theorem ff_LiftGroup_202 : am_F "LiftGroup" 202 3 6 := ⟨RX3, TX3, 7, rfl, by decide, tw_153⟩
set_option maxRecDepth 100000 in
theorem mkX6_isInCar : am_mk rX6_isInCar := ⟨tw_677, tw_1, by decide, by decide +kernel, by decide +kernel, by decide +kernel⟩
set_option maxRecDepth 100000 in
theorem ff_LiftGroup_205 : am_F "LiftGroup" 205 3 5 := ⟨RX3, TX3, 7, rfl, by decide, tw_150⟩
set_option maxRecDepth 100000 in
theorem ts_LiftGroup_208 : ("LiftGroup", 208, "the passenger is assigned to no car") ∈ am_st := by decide +kernel
set_option maxRecDepth 100000 in
theorem mkX6_carOf : am_mk rX6_carOf := ⟨tw_681, tw_1, by decide, by decide +kernel, by decide +kernel, by decide +kernel⟩
set_option maxRecDepth 100000 in
theorem mkX6_checkFloor : am_mk rX6_checkFloor := ⟨tw_689, tw_1, by decide, by decide +kernel, by decide +kernel, by decide +kernel⟩
set_option maxRecDepth 100000 in
theorem prX6_checkFloor : am_par rX6_checkFloor 1 := by unfold am_par; decide +kernel
set_option maxRecDepth 100000 in
theorem mm_LiftGroup_146 : am_mS "LiftGroup" 146 rX6_checkFloor 1 := ⟨mkX6_checkFloor, prX6_checkFloor, tw_687, tw_688⟩
set_option maxRecDepth 100000 in
theorem mm_LiftGroup_213 : am_mV "LiftGroup" 213 rX0_estimateByFormula "LiftGroup$Building" 2 := ⟨mkX0_estimateByFormula, rfl, prX0_estimateByFormula, rfl, tw_691, tw_491, tw_492, tw_2⟩
set_option maxRecDepth 100000 in
theorem mkX6_estimate : am_mk rX6_estimate := ⟨tw_686, tw_1, by decide, by decide +kernel, by decide +kernel, by decide +kernel⟩
set_option maxRecDepth 100000 in
theorem mm_LiftGroup_216 : am_mV "LiftGroup" 216 rX0_estimateByMoving "LiftGroup$Building" 2 := ⟨mkX0_estimateByMoving, rfl, prX0_estimateByMoving, rfl, tw_696, tw_697, tw_698, tw_2⟩
set_option maxRecDepth 100000 in
theorem mkX6_estimateByWalk : am_mk rX6_estimateByWalk := ⟨tw_695, tw_1, by decide, by decide +kernel, by decide +kernel, by decide +kernel⟩
set_option maxRecDepth 100000 in
theorem mm_LiftGroup_219 : am_mS "LiftGroup" 219 rX6_isWeight 1 := ⟨mkX6_isWeight, prX6_isWeight, tw_708, tw_331⟩
set_option maxRecDepth 100000 in
theorem mm_LiftGroup_228 : am_mV "LiftGroup" 228 rX0_chooseCar "LiftGroup$Building" 2 := ⟨mkX0_chooseCar, rfl, prX0_chooseCar, rfl, tw_710, tw_487, tw_488, tw_2⟩
set_option maxRecDepth 100000 in
theorem ts_LiftGroup_231 : ("LiftGroup", 231, "there is no car for this passenger") ∈ am_st := by decide +kernel
set_option maxRecDepth 100000 in
theorem tf_IllegalArgumentException : Bundle.fit "java/lang/IllegalArgumentException" = true ∧ (∀ n ∈ (["java/lang/RuntimeException", "java/lang/Exception"] : List String), Bundle.fit n = true) ∧ (["java/lang/RuntimeException", "java/lang/Exception"] : List String).length ≤ 3 := by decide +kernel
set_option maxRecDepth 100000 in
theorem tx_IllegalArgumentException : tx_x prog_19_method_2_code 7 := by refine ⟨?_, ?_, ?_, ?_⟩ <;> decide +kernel
set_option maxRecDepth 100000 in
theorem ta_LiftGroup_227_223 : (∀ w ∈ (tx_own "LiftGroup" 227 "java/lang/IllegalArgumentException" 7 prog_19_method_2_code ["java/lang/RuntimeException", "java/lang/Exception"]).filter vx_no, w ∈ am_gt ∨ w ∈ am_nw ∨ tx_dc w = true) ∧ ∀ w ∈ Cond.classLink "LiftGroup" 223 "java/lang/IllegalArgumentException" :: Cond.initialized "java/lang/IllegalArgumentException" :: (tx_own "LiftGroup" 227 "java/lang/IllegalArgumentException" 7 prog_19_method_2_code ["java/lang/RuntimeException", "java/lang/Exception"]).filter vx_no, vx_ot w = true := by decide +kernel
set_option maxRecDepth 100000 in
theorem ts_LiftGroup_225 : ("LiftGroup", 225, "the weight is not between 10 and 150") ∈ am_st := by decide +kernel
set_option maxRecDepth 100000 in
theorem mkX6_bestCar : am_mk rX6_bestCar := ⟨tw_707, tw_1, by decide, by decide +kernel, by decide +kernel, by decide +kernel⟩
set_option maxRecDepth 100000 in
theorem mm_LiftGroup_233 : am_mV "LiftGroup" 233 rX0_copyFrom "LiftGroup$Building" 1 := ⟨mkX0_copyFrom, rfl, prX0_copyFrom, rfl, tw_716, tw_461, tw_462, tw_2⟩
set_option maxRecDepth 100000 in
theorem ts_LiftGroup_242 : ("LiftGroup", 242, "the passenger does not board within 90 steps") ∈ am_st := by decide +kernel
set_option maxRecDepth 100000 in
theorem mm_LiftGroup_236 : am_mV "LiftGroup" 236 rX0_step "LiftGroup$Building" 0 := ⟨mkX0_step, rfl, prX0_step, rfl, tw_717, tw_568, tw_569, tw_2⟩
set_option maxRecDepth 100000 in
theorem prX0_isRiding : am_par rX0_isRiding 1 := by unfold am_par; decide +kernel
set_option maxRecDepth 100000 in
theorem mm_LiftGroup_239 : am_mV "LiftGroup" 239 rX0_isRiding "LiftGroup$Building" 1 := ⟨mkX0_isRiding, rfl, prX0_isRiding, rfl, tw_718, tw_719, tw_720, tw_2⟩
set_option maxRecDepth 100000 in
theorem mkX6_stepsUntilBoarding : am_mk rX6_stepsUntilBoarding := ⟨tw_715, tw_1, by decide, by decide +kernel, by decide +kernel, by decide +kernel⟩
set_option maxRecDepth 100000 in
theorem ts_LiftGroup_247 : ("LiftGroup", 247, "the passenger does not leave within 90 steps") ∈ am_st := by decide +kernel
set_option maxRecDepth 100000 in
theorem mm_LiftGroup_244 : am_mV "LiftGroup" 244 rX0_indexOf "LiftGroup$Building" 1 := ⟨mkX0_indexOf, rfl, prX0_indexOf, rfl, tw_731, tw_723, tw_724, tw_2⟩
set_option maxRecDepth 100000 in
theorem mkX6_stepsUntilArrival : am_mk rX6_stepsUntilArrival := ⟨tw_730, tw_1, by decide, by decide +kernel, by decide +kernel, by decide +kernel⟩
set_option maxRecDepth 100000 in
theorem ts_LiftGroup_249 : ("LiftGroup", 249, "the number of steps is not between 0 and 90") ∈ am_st := by decide +kernel
set_option maxRecDepth 100000 in
theorem mkX6_tripsWithin : am_mk rX6_tripsWithin := ⟨tw_736, tw_1, by decide, by decide +kernel, by decide +kernel, by decide +kernel⟩
set_option maxRecDepth 100000 in
theorem ts_LiftGroup_254 : ("LiftGroup", 254, "there is no such rank") ∈ am_st := by decide +kernel
set_option maxRecDepth 100000 in
theorem prX0_countMoreEnergetic : am_par rX0_countMoreEnergetic 1 := by unfold am_par; decide +kernel
set_option maxRecDepth 100000 in
theorem mm_LiftGroup_256 : am_mV "LiftGroup" 256 rX0_countMoreEnergetic "LiftGroup$Building" 1 := ⟨mkX0_countMoreEnergetic, rfl, prX0_countMoreEnergetic, rfl, tw_742, tw_743, tw_744, tw_2⟩
set_option maxRecDepth 100000 in
theorem mkX6_carByEnergy : am_mk rX6_carByEnergy := ⟨tw_741, tw_1, by decide, by decide +kernel, by decide +kernel, by decide +kernel⟩
set_option maxRecDepth 100000 in
theorem mkX6_checkTrip : am_mk rX6_checkTrip := ⟨tw_758, tw_1, by decide, by decide +kernel, by decide +kernel, by decide +kernel⟩
set_option maxRecDepth 100000 in
theorem prX6_checkTrip : am_par rX6_checkTrip 1 := by unfold am_par; decide +kernel
set_option maxRecDepth 100000 in
theorem mm_LiftGroup_259 : am_mV "LiftGroup" 259 rX6_checkTrip "LiftGroup" 1 := ⟨mkX6_checkTrip, rfl, prX6_checkTrip, rfl, tw_755, tw_757, tp_7, tw_1⟩
set_option maxRecDepth 100000 in
theorem ff_LiftGroup_262 : am_F "LiftGroup" 262 0 2 := ⟨RX0, TX0, 10, rfl, by decide, tw_174⟩
set_option maxRecDepth 100000 in
theorem ff_LiftGroup_266 : am_F "LiftGroup" 266 5 0 := ⟨RX5, TX5, 5, rfl, by decide, tw_60⟩
set_option maxRecDepth 100000 in
theorem prX5_placeOf : am_par rX5_placeOf 1 := by unfold am_par; decide +kernel
set_option maxRecDepth 100000 in
theorem mm_LiftGroup_272 : am_mV "LiftGroup" 272 rX5_placeOf "LiftGroup$TripLog" 1 := ⟨mkX5_placeOf, rfl, prX5_placeOf, rfl, tw_764, tw_765, tw_766, tw_3⟩
set_option maxRecDepth 100000 in
theorem mkX6_tripNumber : am_mk rX6_tripNumber := ⟨tw_754, tw_1, by decide, by decide +kernel, by decide +kernel, by decide +kernel⟩
set_option maxRecDepth 100000 in
theorem ff_LiftGroup_275 : am_F "LiftGroup" 275 5 1 := ⟨RX5, TX5, 5, rfl, by decide, tw_62⟩
set_option maxRecDepth 100000 in
theorem mkX6_tripCar : am_mk rX6_tripCar := ⟨tw_771, tw_1, by decide, by decide +kernel, by decide +kernel, by decide +kernel⟩
set_option maxRecDepth 100000 in
theorem ff_LiftGroup_277 : am_F "LiftGroup" 277 5 2 := ⟨RX5, TX5, 5, rfl, by decide, tw_64⟩
set_option maxRecDepth 100000 in
theorem mkX6_tripWaiting : am_mk rX6_tripWaiting := ⟨tw_775, tw_1, by decide, by decide +kernel, by decide +kernel, by decide +kernel⟩
set_option maxRecDepth 100000 in
theorem ff_LiftGroup_280 : am_F "LiftGroup" 280 5 3 := ⟨RX5, TX5, 5, rfl, by decide, tw_67⟩
set_option maxRecDepth 100000 in
theorem mkX6_tripCount : am_mk rX6_tripCount := ⟨tw_1303, tw_1, by decide, by decide +kernel, by decide +kernel, by decide +kernel⟩
set_option maxRecDepth 100000 in
theorem prX0_sumOfAccounts : am_par rX0_sumOfAccounts 0 := by unfold am_par; decide +kernel
set_option maxRecDepth 100000 in
theorem mm_LiftGroup_283 : am_mV "LiftGroup" 283 rX0_sumOfAccounts "LiftGroup$Building" 0 := ⟨mkX0_sumOfAccounts, rfl, prX0_sumOfAccounts, rfl, tw_780, tw_781, tw_782, tw_2⟩
set_option maxRecDepth 100000 in
theorem mkX6_totalEnergy : am_mk rX6_totalEnergy := ⟨tw_779, tw_1, by decide, by decide +kernel, by decide +kernel, by decide +kernel⟩
set_option maxRecDepth 100000 in
theorem prX0_energyOfMoves : am_par rX0_energyOfMoves 0 := by unfold am_par; decide +kernel
set_option maxRecDepth 100000 in
theorem mm_LiftGroup_287 : am_mV "LiftGroup" 287 rX0_energyOfMoves "LiftGroup$Building" 0 := ⟨mkX0_energyOfMoves, rfl, prX0_energyOfMoves, rfl, tw_788, tw_789, tw_790, tw_2⟩
set_option maxRecDepth 100000 in
theorem mkX6_totalEnergyByMoves : am_mk rX6_totalEnergyByMoves := ⟨tw_787, tw_1, by decide, by decide +kernel, by decide +kernel, by decide +kernel⟩
set_option maxRecDepth 100000 in
theorem ff_LiftGroup_290 : am_F "LiftGroup" 290 0 6 := ⟨RX0, TX0, 10, rfl, by decide, tw_181⟩
set_option maxRecDepth 100000 in
theorem mkX6_floorsUp : am_mk rX6_floorsUp := ⟨tw_796, tw_1, by decide, by decide +kernel, by decide +kernel, by decide +kernel⟩
set_option maxRecDepth 100000 in
theorem ff_LiftGroup_293 : am_F "LiftGroup" 293 0 7 := ⟨RX0, TX0, 10, rfl, by decide, tw_183⟩
set_option maxRecDepth 100000 in
theorem mkX6_floorsDown : am_mk rX6_floorsDown := ⟨tw_800, tw_1, by decide, by decide +kernel, by decide +kernel, by decide +kernel⟩
set_option maxRecDepth 100000 in
theorem ff_LiftGroup_296 : am_F "LiftGroup" 296 0 9 := ⟨RX0, TX0, 10, rfl, by decide, tw_186⟩
set_option maxRecDepth 100000 in
theorem mkX6_doorOpenings : am_mk rX6_doorOpenings := ⟨tw_804, tw_1, by decide, by decide +kernel, by decide +kernel, by decide +kernel⟩
set_option maxRecDepth 100000 in
theorem ff_LiftGroup_304 : am_F "LiftGroup" 304 5 4 := ⟨RX5, TX5, 5, rfl, by decide, tw_69⟩
set_option maxRecDepth 100000 in
theorem tf_ArithmeticException : Bundle.fit "java/lang/ArithmeticException" = true ∧ (∀ n ∈ (["java/lang/RuntimeException", "java/lang/Exception"] : List String), Bundle.fit n = true) ∧ (["java/lang/RuntimeException", "java/lang/Exception"] : List String).length ≤ 3 := by decide +kernel
set_option maxRecDepth 100000 in
theorem tx_ArithmeticException : tx_x prog_13_method_2_code 7 := by refine ⟨?_, ?_, ?_, ?_⟩ <;> decide +kernel
set_option maxRecDepth 100000 in
theorem ta_LiftGroup_303_299 : (∀ w ∈ (tx_own "LiftGroup" 303 "java/lang/ArithmeticException" 7 prog_13_method_2_code ["java/lang/RuntimeException", "java/lang/Exception"]).filter vx_no, w ∈ am_gt ∨ w ∈ am_nw ∨ tx_dc w = true) ∧ ∀ w ∈ Cond.classLink "LiftGroup" 299 "java/lang/ArithmeticException" :: Cond.initialized "java/lang/ArithmeticException" :: (tx_own "LiftGroup" 303 "java/lang/ArithmeticException" 7 prog_13_method_2_code ["java/lang/RuntimeException", "java/lang/Exception"]).filter vx_no, vx_ot w = true := by decide +kernel
set_option maxRecDepth 100000 in
theorem ts_LiftGroup_301 : ("LiftGroup", 301, "there was no trip") ∈ am_st := by decide +kernel
set_option maxRecDepth 100000 in
theorem mkX6_meanWaiting : am_mk rX6_meanWaiting := ⟨tw_808, tw_1, by decide, by decide +kernel, by decide +kernel, by decide +kernel⟩
set_option maxRecDepth 100000 in
theorem prX0_estimatesAgree : am_par rX0_estimatesAgree 0 := by unfold am_par; decide +kernel
set_option maxRecDepth 100000 in
theorem mm_LiftGroup_307 : am_mV "LiftGroup" 307 rX0_estimatesAgree "LiftGroup$Building" 0 := ⟨mkX0_estimatesAgree, rfl, prX0_estimatesAgree, rfl, tw_829, tw_830, tw_831, tw_2⟩
set_option maxRecDepth 100000 in
theorem prX0_loadsFit : am_par rX0_loadsFit 0 := by unfold am_par; decide +kernel
set_option maxRecDepth 100000 in
theorem mm_LiftGroup_311 : am_mV "LiftGroup" 311 rX0_loadsFit "LiftGroup$Building" 0 := ⟨mkX0_loadsFit, rfl, prX0_loadsFit, rfl, tw_834, tw_835, tw_836, tw_2⟩
set_option maxRecDepth 100000 in
theorem prX0_assignmentsServe : am_par rX0_assignmentsServe 0 := by unfold am_par; decide +kernel
set_option maxRecDepth 100000 in
theorem mm_LiftGroup_314 : am_mV "LiftGroup" 314 rX0_assignmentsServe "LiftGroup$Building" 0 := ⟨mkX0_assignmentsServe, rfl, prX0_assignmentsServe, rfl, tw_838, tw_839, tw_840, tw_2⟩
set_option maxRecDepth 100000 in
theorem mkX6_isConsistent : am_mk rX6_isConsistent := ⟨tw_828, tw_1, by decide, by decide +kernel, by decide +kernel, by decide +kernel⟩
set_option maxRecDepth 100000 in
theorem ts_LiftGroup_340 : ("LiftGroup", 340, "the character code is not between 32 and 126") ∈ am_st := by decide +kernel
set_option maxRecDepth 100000 in
theorem ff_LiftGroup_342 : am_F "LiftGroup" 342 4 0 := ⟨RX4, TX4, 5, rfl, by decide, tw_270⟩
set_option maxRecDepth 100000 in
theorem mm_LiftGroup_327 : am_mV "LiftGroup" 327 rJ4_length_8abf5 "java/lang/StringBuilder" 0 := ⟨mkJ4_length_8abf5, rfl, prJ4_length_8abf5, rfl, tw_1259, tw_925, tw_926, tw_9⟩
set_option maxRecDepth 100000 in
theorem mkJ4_append_cf468 : am_mk rJ4_append_cf468 := ⟨tw_1264, tw_9, by decide, by decide +kernel, by decide +kernel, by decide +kernel⟩
set_option maxRecDepth 100000 in
theorem prJ4_append_cf468 : am_par rJ4_append_cf468 1 := by unfold am_par; decide +kernel
set_option maxRecDepth 100000 in
theorem mm_LiftGroup_324 : am_mV "LiftGroup" 324 rJ4_append_cf468 "java/lang/StringBuilder" 1 := ⟨mkJ4_append_cf468, rfl, prJ4_append_cf468, rfl, tw_1261, tw_1262, tw_1263, tw_9⟩
set_option maxRecDepth 100000 in
theorem tf_IllegalStateException : Bundle.fit "java/lang/IllegalStateException" = true ∧ (∀ n ∈ (["java/lang/RuntimeException", "java/lang/Exception"] : List String), Bundle.fit n = true) ∧ (["java/lang/RuntimeException", "java/lang/Exception"] : List String).length ≤ 3 := by decide +kernel
set_option maxRecDepth 100000 in
theorem tx_IllegalStateException : tx_x prog_20_method_2_code 7 := by refine ⟨?_, ?_, ?_, ?_⟩ <;> decide +kernel
set_option maxRecDepth 100000 in
theorem ta_LiftGroup_349_345 : (∀ w ∈ (tx_own "LiftGroup" 349 "java/lang/IllegalStateException" 7 prog_20_method_2_code ["java/lang/RuntimeException", "java/lang/Exception"]).filter vx_no, w ∈ am_gt ∨ w ∈ am_nw ∨ tx_dc w = true) ∧ ∀ w ∈ Cond.classLink "LiftGroup" 345 "java/lang/IllegalStateException" :: Cond.initialized "java/lang/IllegalStateException" :: (tx_own "LiftGroup" 349 "java/lang/IllegalStateException" 7 prog_20_method_2_code ["java/lang/RuntimeException", "java/lang/Exception"]).filter vx_no, vx_ot w = true := by decide +kernel
set_option maxRecDepth 100000 in
theorem ts_LiftGroup_347 : ("LiftGroup", 347, "the script buffer is full") ∈ am_st := by decide +kernel
set_option maxRecDepth 100000 in
theorem mkX6_type : am_mk rX6_type := ⟨tw_1257, tw_1, by decide, by decide +kernel, by decide +kernel, by decide +kernel⟩
set_option maxRecDepth 100000 in
theorem prX4_read : am_par rX4_read 0 := by unfold am_par; decide +kernel
set_option maxRecDepth 100000 in
theorem mm_LiftGroup_350 : am_mV "LiftGroup" 350 rX4_read "LiftGroup$Script" 0 := ⟨mkX4_read, rfl, prX4_read, rfl, tw_850, tw_851, tw_852, tw_7⟩
set_option maxRecDepth 100000 in
theorem mkJ4_setLength_d00df : am_mk rJ4_setLength_d00df := ⟨tw_955, tw_9, by decide, by decide +kernel, by decide +kernel, by decide +kernel⟩
set_option maxRecDepth 100000 in
theorem prJ4_setLength_d00df : am_par rJ4_setLength_d00df 1 := by unfold am_par; decide +kernel
set_option maxRecDepth 100000 in
theorem mm_LiftGroup_317 : am_mV "LiftGroup" 317 rJ4_setLength_d00df "java/lang/StringBuilder" 1 := ⟨mkJ4_setLength_d00df, rfl, prJ4_setLength_d00df, rfl, tw_952, tw_953, tw_954, tw_9⟩
set_option maxRecDepth 100000 in
theorem ts_LiftGroup_353 : ("LiftGroup", 353, "the script does not have the required form") ∈ am_st := by decide +kernel
set_option maxRecDepth 100000 in
theorem ff_LiftGroup_355 : am_F "LiftGroup" 355 4 3 := ⟨RX4, TX4, 5, rfl, by decide, tw_276⟩
set_option maxRecDepth 100000 in
theorem ff_LiftGroup_358 : am_F "LiftGroup" 358 4 1 := ⟨RX4, TX4, 5, rfl, by decide, tw_272⟩
set_option maxRecDepth 100000 in
theorem ff_LiftGroup_361 : am_F "LiftGroup" 361 4 2 := ⟨RX4, TX4, 5, rfl, by decide, tw_274⟩
set_option maxRecDepth 100000 in
theorem prX0_refusalToPerform : am_par rX0_refusalToPerform 2 := by unfold am_par; decide +kernel
set_option maxRecDepth 100000 in
theorem mm_LiftGroup_365 : am_mV "LiftGroup" 365 rX0_refusalToPerform "LiftGroup$Building" 2 := ⟨mkX0_refusalToPerform, rfl, prX0_refusalToPerform, rfl, tw_1193, tw_1194, tw_1195, tw_2⟩
set_option maxRecDepth 100000 in
theorem prX0_perform : am_par rX0_perform 2 := by unfold am_par; decide +kernel
set_option maxRecDepth 100000 in
theorem mm_LiftGroup_371 : am_mV "LiftGroup" 371 rX0_perform "LiftGroup$Building" 2 := ⟨mkX0_perform, rfl, prX0_perform, rfl, tw_1209, tw_1210, tw_1211, tw_2⟩
set_option maxRecDepth 100000 in
theorem ts_LiftGroup_369 : ("LiftGroup", 369, "a command of the script failed") ∈ am_st := by decide +kernel
set_option maxRecDepth 100000 in
theorem mkX6_runScript : am_mk rX6_runScript := ⟨tw_849, tw_1, by decide, by decide +kernel, by decide +kernel, by decide +kernel⟩
set_option maxRecDepth 100000 in
theorem ts_LiftGroup_374 : ("LiftGroup", 374, "every script had the required form") ∈ am_st := by decide +kernel
set_option maxRecDepth 100000 in
theorem mkX6_errorPosition : am_mk rX6_errorPosition := ⟨tw_1481, tw_1, by decide, by decide +kernel, by decide +kernel, by decide +kernel⟩
set_option maxRecDepth 100000 in
theorem ts_LiftGroup_376 : ("LiftGroup", 376, "no command failed") ∈ am_st := by decide +kernel
set_option maxRecDepth 100000 in
theorem mkX6_failedCommand : am_mk rX6_failedCommand := ⟨tw_1226, tw_1, by decide, by decide +kernel, by decide +kernel, by decide +kernel⟩
set_option maxRecDepth 100000 in
theorem ff_LiftGroup_378 : am_F "LiftGroup" 378 2 1 := ⟨RX2, TX2, 3, rfl, by decide, tw_219⟩
set_option maxRecDepth 100000 in
theorem prX2_takeBack : am_par rX2_takeBack 1 := by unfold am_par; decide +kernel
set_option maxRecDepth 100000 in
theorem mm_LiftGroup_381 : am_mV "LiftGroup" 381 rX2_takeBack "LiftGroup$History" 1 := ⟨mkX2_takeBack, rfl, prX2_takeBack, rfl, tw_1233, tw_1234, tw_1235, tw_6⟩
set_option maxRecDepth 100000 in
theorem ts_LiftGroup_379 : ("LiftGroup", 379, "there is nothing to undo") ∈ am_st := by decide +kernel
set_option maxRecDepth 100000 in
theorem mkX6_undo : am_mk rX6_undo := ⟨tw_1231, tw_1, by decide, by decide +kernel, by decide +kernel, by decide +kernel⟩
set_option maxRecDepth 100000 in
theorem mkX6_save : am_mk rX6_save := ⟨tw_1240, tw_1, by decide, by decide +kernel, by decide +kernel, by decide +kernel⟩
set_option maxRecDepth 100000 in
theorem ts_LiftGroup_384 : ("LiftGroup", 384, "there is no snapshot") ∈ am_st := by decide +kernel
set_option maxRecDepth 100000 in
theorem mkX6_restore : am_mk rX6_restore := ⟨tw_1244, tw_1, by decide, by decide +kernel, by decide +kernel, by decide +kernel⟩
set_option maxRecDepth 100000 in
theorem mm_LiftGroup_386 : am_mS "LiftGroup" 386 rX6_isCar 1 := ⟨mkX6_isCar, prX6_isCar, tw_608, tw_513⟩
set_option maxRecDepth 100000 in
theorem tf_IndexOutOfBoundsException : Bundle.fit "java/lang/IndexOutOfBoundsException" = true ∧ (∀ n ∈ (["java/lang/RuntimeException", "java/lang/Exception"] : List String), Bundle.fit n = true) ∧ (["java/lang/RuntimeException", "java/lang/Exception"] : List String).length ≤ 3 := by decide +kernel
set_option maxRecDepth 100000 in
theorem tx_IndexOutOfBoundsException : tx_x prog_21_method_2_code 7 := by refine ⟨?_, ?_, ?_, ?_⟩ <;> decide +kernel
set_option maxRecDepth 100000 in
theorem ta_LiftGroup_335_331 : (∀ w ∈ (tx_own "LiftGroup" 335 "java/lang/IndexOutOfBoundsException" 7 prog_21_method_2_code ["java/lang/RuntimeException", "java/lang/Exception"]).filter vx_no, w ∈ am_gt ∨ w ∈ am_nw ∨ tx_dc w = true) ∧ ∀ w ∈ Cond.classLink "LiftGroup" 331 "java/lang/IndexOutOfBoundsException" :: Cond.initialized "java/lang/IndexOutOfBoundsException" :: (tx_own "LiftGroup" 335 "java/lang/IndexOutOfBoundsException" 7 prog_21_method_2_code ["java/lang/RuntimeException", "java/lang/Exception"]).filter vx_no, vx_ot w = true := by decide +kernel
set_option maxRecDepth 100000 in
theorem ts_LiftGroup_389 : ("LiftGroup", 389, "there is no such car") ∈ am_st := by decide +kernel
set_option maxRecDepth 100000 in
theorem mm_LiftGroup_391 : am_mS "LiftGroup" 391 rX6_isFloor 1 := ⟨mkX6_isFloor, prX6_isFloor, tw_578, tw_328⟩
set_option maxRecDepth 100000 in
theorem ts_LiftGroup_394 : ("LiftGroup", 394, "there is no such floor") ∈ am_st := by decide +kernel
set_option maxRecDepth 100000 in
theorem mm_LiftGroup_396 : am_mV "LiftGroup" 396 rX0_isPassenger "LiftGroup$Building" 1 := ⟨mkX0_isPassenger, rfl, prX0_isPassenger, rfl, tw_665, tw_666, tw_667, tw_2⟩
set_option maxRecDepth 100000 in
theorem ts_LiftGroup_399 : ("LiftGroup", 399, "there is no such passenger") ∈ am_st := by decide +kernel
set_option maxRecDepth 100000 in
theorem prX5_remembers : am_par rX5_remembers 1 := by unfold am_par; decide +kernel
set_option maxRecDepth 100000 in
theorem mm_LiftGroup_401 : am_mV "LiftGroup" 401 rX5_remembers "LiftGroup$TripLog" 1 := ⟨mkX5_remembers, rfl, prX5_remembers, rfl, tw_759, tw_760, tw_761, tw_3⟩
set_option maxRecDepth 100000 in
theorem ts_LiftGroup_404 : ("LiftGroup", 404, "there is no such trip") ∈ am_st := by decide +kernel
set_option maxRecDepth 100000 in
theorem tf_UnsupportedOperationException : Bundle.fit "java/lang/UnsupportedOperationException" = true ∧ (∀ n ∈ (["java/lang/RuntimeException", "java/lang/Exception"] : List String), Bundle.fit n = true) ∧ (["java/lang/RuntimeException", "java/lang/Exception"] : List String).length ≤ 3 := by decide +kernel
set_option maxRecDepth 100000 in
theorem tx_UnsupportedOperationException : tx_x prog_34_method_2_code 7 := by refine ⟨?_, ?_, ?_, ?_⟩ <;> decide +kernel
set_option maxRecDepth 100000 in
theorem ta_LiftGroup_416_412 : (∀ w ∈ (tx_own "LiftGroup" 416 "java/lang/UnsupportedOperationException" 7 prog_34_method_2_code ["java/lang/RuntimeException", "java/lang/Exception"]).filter vx_no, w ∈ am_gt ∨ w ∈ am_nw ∨ tx_dc w = true) ∧ ∀ w ∈ Cond.classLink "LiftGroup" 412 "java/lang/UnsupportedOperationException" :: Cond.initialized "java/lang/UnsupportedOperationException" :: (tx_own "LiftGroup" 416 "java/lang/UnsupportedOperationException" 7 prog_34_method_2_code ["java/lang/RuntimeException", "java/lang/Exception"]).filter vx_no, vx_ot w = true := by decide +kernel
set_option maxRecDepth 100000 in
theorem ts_LiftGroup_414 : ("LiftGroup", 414, "the load is greater than this capacity") ∈ am_st := by decide +kernel
set_option maxRecDepth 100000 in
theorem ts_LiftGroup_410 : ("LiftGroup", 410, "the state does not allow this") ∈ am_st := by decide +kernel
set_option maxRecDepth 100000 in
theorem ts_LiftGroup_408 : ("LiftGroup", 408, "an argument is outside its range") ∈ am_st := by decide +kernel
set_option maxRecDepth 100000 in
theorem ts_LiftGroup_406 : ("LiftGroup", 406, "there is no such car or passenger") ∈ am_st := by decide +kernel
set_option maxRecDepth 100000 in
theorem mkL_at : am_mk rL_at := ⟨tw_1248, tw_0, by decide, by decide +kernel, by decide +kernel, by decide +kernel⟩
set_option maxRecDepth 100000 in
theorem mm_LiftGroupLaw_7 : am_mV "LiftGroupLaw" 7 rJ0_length_8abf5 "java/lang/String" 0 := ⟨mkJ0_length_8abf5, rfl, prJ0_length_8abf5, rfl, tw_1252, tw_874, tw_875, tw_10⟩
set_option maxRecDepth 100000 in
theorem mm_LiftGroupLaw_13 : am_mV "LiftGroupLaw" 13 rJ0_charAt_5068e "java/lang/String" 1 := ⟨mkJ0_charAt_5068e, rfl, prJ0_charAt_5068e, rfl, tw_1253, tw_883, tw_884, tw_10⟩
set_option maxRecDepth 100000 in
theorem prX6_type : am_par rX6_type 1 := by unfold am_par; decide +kernel
set_option maxRecDepth 100000 in
theorem mm_LiftGroupLaw_17 : am_mV "LiftGroupLaw" 17 rX6_type "LiftGroup" 1 := ⟨mkX6_type, rfl, prX6_type, rfl, tw_1254, tw_1255, tw_1256, tw_1⟩
set_option maxRecDepth 100000 in
theorem mkL_put : am_mk rL_put := ⟨tw_1251, tw_0, by decide, by decide +kernel, by decide +kernel, by decide +kernel⟩
set_option maxRecDepth 100000 in
theorem dv_6 : am_dv 6 := by
  intro k b hk q hq ty hty
  cases hq
  match k, hk, hty with
  | 0, hk, hty => cases hk; have e1 := pp_6_0 _ rfl; cases (e1.2.symm.trans hty); rfl
  | 1, hk, hty => cases hk; have e1 := pp_6_1 _ rfl; cases (e1.2.symm.trans hty); rfl
  | 2, hk, hty => cases hk; have e1 := pp_6_2 _ rfl; cases (e1.2.symm.trans hty); rfl
  | 3, hk, hty => cases hk; have e1 := pp_6_3 _ rfl; cases (e1.2.symm.trans hty); rfl
  | 4, hk, hty => cases hk; have e1 := pp_6_4 _ rfl; cases (e1.2.symm.trans hty); rfl
  | 5, hk, hty => cases hk; have e1 := pp_6_5 _ rfl; cases (e1.2.symm.trans hty); rfl
  | 6, hk, hty => cases hk; have e1 := pp_6_6 _ rfl; cases (e1.2.symm.trans hty); rfl
  | 7, hk, hty => cases hk; have e1 := pp_6_7 _ rfl; cases (e1.2.symm.trans hty); rfl
  | 8, hk, hty => cases hk; have e1 := pp_6_8 _ rfl; cases (e1.2.symm.trans hty); rfl
  | k + 9, hk, hty => simp [am_kd] at hk
set_option maxRecDepth 100000 in
theorem prX6_init : am_par rX6_init 0 := by unfold am_par; decide +kernel
set_option maxRecDepth 100000 in
theorem mm_LiftGroupLaw_23 : am_mI "LiftGroupLaw" 23 rX6_init 0 := ⟨mkX6_init, rfl, prX6_init, tw_37, tw_38, rfl, rfl⟩
set_option maxRecDepth 100000 in
theorem prL_at : am_par rL_at 2 := by unfold am_par; decide +kernel
set_option maxRecDepth 100000 in
theorem mm_LiftGroupLaw_24 : am_mS "LiftGroupLaw" 24 rL_at 2 := ⟨mkL_at, prL_at, tw_1246, tw_1247⟩
set_option maxRecDepth 100000 in
theorem mkL_act : am_mk rL_act := ⟨tw_1279, tw_0, by decide, by decide +kernel, by decide +kernel, by decide +kernel⟩
set_option maxRecDepth 100000 in
theorem prL_act : am_par rL_act 5 := by unfold am_par; decide +kernel
set_option maxRecDepth 100000 in
theorem mm_LiftGroupLaw_30 : am_mS "LiftGroupLaw" 30 rL_act 5 := ⟨mkL_act, prL_act, tw_1277, tw_1278⟩
set_option maxRecDepth 100000 in
theorem prX6_passengerCount : am_par rX6_passengerCount 0 := by unfold am_par; decide +kernel
set_option maxRecDepth 100000 in
theorem mm_LiftGroupLaw_34 : am_mV "LiftGroupLaw" 34 rX6_passengerCount "LiftGroup" 0 := ⟨mkX6_passengerCount, rfl, prX6_passengerCount, rfl, tw_653, tw_654, tw_655, tw_1⟩
set_option maxRecDepth 100000 in
theorem mkL_build : am_mk rL_build := ⟨tw_1276, tw_0, by decide, by decide +kernel, by decide +kernel, by decide +kernel⟩
set_option maxRecDepth 100000 in
theorem prX6_advance : am_par rX6_advance 1 := by unfold am_par; decide +kernel
set_option maxRecDepth 100000 in
theorem mm_LiftGroupLaw_63 : am_mV "LiftGroupLaw" 63 rX6_advance "LiftGroup" 1 := ⟨mkX6_advance, rfl, prX6_advance, rfl, tw_555, tw_556, tw_557, tw_1⟩
set_option maxRecDepth 100000 in
theorem am_castN_IllegalArgumentException : Cond.castable "java/lang/IllegalArgumentException" "java/lang/IllegalArgumentException" ∈ am_gt ∨ Cond.castable "java/lang/IllegalArgumentException" "java/lang/IllegalArgumentException" ∈ am_nw := by decide +kernel
set_option maxRecDepth 100000 in
theorem am_castN_IllegalStateException : Cond.castable "java/lang/IllegalStateException" "java/lang/IllegalStateException" ∈ am_gt ∨ Cond.castable "java/lang/IllegalStateException" "java/lang/IllegalStateException" ∈ am_nw := by decide +kernel
set_option maxRecDepth 100000 in
theorem am_castN_IndexOutOfBoundsException : Cond.castable "java/lang/IndexOutOfBoundsException" "java/lang/IndexOutOfBoundsException" ∈ am_gt ∨ Cond.castable "java/lang/IndexOutOfBoundsException" "java/lang/IndexOutOfBoundsException" ∈ am_nw := by decide +kernel
set_option maxRecDepth 100000 in
theorem am_castN_UnsupportedOperationException : Cond.castable "java/lang/UnsupportedOperationException" "java/lang/UnsupportedOperationException" ∈ am_gt ∨ Cond.castable "java/lang/UnsupportedOperationException" "java/lang/UnsupportedOperationException" ∈ am_nw := by decide +kernel
set_option maxRecDepth 100000 in
theorem prX6_addPassenger : am_par rX6_addPassenger 3 := by unfold am_par; decide +kernel
set_option maxRecDepth 100000 in
theorem mm_LiftGroupLaw_43 : am_mV "LiftGroupLaw" 43 rX6_addPassenger "LiftGroup" 3 := ⟨mkX6_addPassenger, rfl, prX6_addPassenger, rfl, tw_319, tw_320, tw_321, tw_1⟩
set_option maxRecDepth 100000 in
theorem prX6_removePassenger : am_par rX6_removePassenger 1 := by unfold am_par; decide +kernel
set_option maxRecDepth 100000 in
theorem mm_LiftGroupLaw_47 : am_mV "LiftGroupLaw" 47 rX6_removePassenger "LiftGroup" 1 := ⟨mkX6_removePassenger, rfl, prX6_removePassenger, rfl, tw_1286, tw_1287, tw_1288, tw_1⟩
set_option maxRecDepth 100000 in
theorem prX6_holdDoors : am_par rX6_holdDoors 2 := by unfold am_par; decide +kernel
set_option maxRecDepth 100000 in
theorem mm_LiftGroupLaw_51 : am_mV "LiftGroupLaw" 51 rX6_holdDoors "LiftGroup" 2 := ⟨mkX6_holdDoors, rfl, prX6_holdDoors, rfl, tw_504, tw_505, tw_506, tw_1⟩
set_option maxRecDepth 100000 in
theorem prX6_stopCar : am_par rX6_stopCar 1 := by unfold am_par; decide +kernel
set_option maxRecDepth 100000 in
theorem mm_LiftGroupLaw_54 : am_mV "LiftGroupLaw" 54 rX6_stopCar "LiftGroup" 1 := ⟨mkX6_stopCar, rfl, prX6_stopCar, rfl, tw_519, tw_520, tw_521, tw_1⟩
set_option maxRecDepth 100000 in
theorem prX6_startCar : am_par rX6_startCar 1 := by unfold am_par; decide +kernel
set_option maxRecDepth 100000 in
theorem mm_LiftGroupLaw_57 : am_mV "LiftGroupLaw" 57 rX6_startCar "LiftGroup" 1 := ⟨mkX6_startCar, rfl, prX6_startCar, rfl, tw_531, tw_532, tw_533, tw_1⟩
set_option maxRecDepth 100000 in
theorem prX6_setCapacity : am_par rX6_setCapacity 2 := by unfold am_par; decide +kernel
set_option maxRecDepth 100000 in
theorem mm_LiftGroupLaw_60 : am_mV "LiftGroupLaw" 60 rX6_setCapacity "LiftGroup" 2 := ⟨mkX6_setCapacity, rfl, prX6_setCapacity, rfl, tw_543, tw_544, tw_545, tw_1⟩
set_option maxRecDepth 100000 in
theorem prX6_floor : am_par rX6_floor 1 := by unfold am_par; decide +kernel
set_option maxRecDepth 100000 in
theorem mm_LiftGroupLaw_76 : am_mV "LiftGroupLaw" 76 rX6_floor "LiftGroup" 1 := ⟨mkX6_floor, rfl, prX6_floor, rfl, tw_601, tw_602, tw_603, tw_1⟩
set_option maxRecDepth 100000 in
theorem prX6_direction : am_par rX6_direction 1 := by unfold am_par; decide +kernel
set_option maxRecDepth 100000 in
theorem mm_LiftGroupLaw_79 : am_mV "LiftGroupLaw" 79 rX6_direction "LiftGroup" 1 := ⟨mkX6_direction, rfl, prX6_direction, rfl, tw_610, tw_611, tw_612, tw_1⟩
set_option maxRecDepth 100000 in
theorem prX6_capacity : am_par rX6_capacity 1 := by unfold am_par; decide +kernel
set_option maxRecDepth 100000 in
theorem mm_LiftGroupLaw_82 : am_mV "LiftGroupLaw" 82 rX6_capacity "LiftGroup" 1 := ⟨mkX6_capacity, rfl, prX6_capacity, rfl, tw_1308, tw_1309, tw_1310, tw_1⟩
set_option maxRecDepth 100000 in
theorem prX6_doorSteps : am_par rX6_doorSteps 1 := by unfold am_par; decide +kernel
set_option maxRecDepth 100000 in
theorem mm_LiftGroupLaw_85 : am_mV "LiftGroupLaw" 85 rX6_doorSteps "LiftGroup" 1 := ⟨mkX6_doorSteps, rfl, prX6_doorSteps, rfl, tw_622, tw_623, tw_624, tw_1⟩
set_option maxRecDepth 100000 in
theorem prX6_isInService : am_par rX6_isInService 1 := by unfold am_par; decide +kernel
set_option maxRecDepth 100000 in
theorem mm_LiftGroupLaw_88 : am_mV "LiftGroupLaw" 88 rX6_isInService "LiftGroup" 1 := ⟨mkX6_isInService, rfl, prX6_isInService, rfl, tw_1312, tw_1313, tw_1314, tw_1⟩
set_option maxRecDepth 100000 in
theorem prX6_energy : am_par rX6_energy 1 := by unfold am_par; decide +kernel
set_option maxRecDepth 100000 in
theorem mm_LiftGroupLaw_92 : am_mV "LiftGroupLaw" 92 rX6_energy "LiftGroup" 1 := ⟨mkX6_energy, rfl, prX6_energy, rfl, tw_626, tw_627, tw_628, tw_1⟩
set_option maxRecDepth 100000 in
theorem mkL_cars : am_mk rL_cars := ⟨tw_1306, tw_0, by decide, by decide +kernel, by decide +kernel, by decide +kernel⟩
set_option maxRecDepth 100000 in
theorem dv_7 : am_dv 7 := by
  intro k b hk q hq ty hty
  cases hq
  match k, hk, hty with
  | 0, hk, hty => cases hk; have e1 := pp_7_0 _ rfl; cases (e1.2.symm.trans hty); rfl
  | 1, hk, hty => cases hk; have e1 := pp_7_1 _ rfl; cases (e1.2.symm.trans hty); rfl
  | 2, hk, hty => cases hk; have e1 := pp_7_2 _ rfl; cases (e1.2.symm.trans hty); rfl
  | k + 3, hk, hty => simp [am_kd] at hk
set_option maxRecDepth 100000 in
theorem mkJx4a65c_init_da8c8 : am_mk rJx4a65c_init_da8c8 := ⟨tw_1323, tw_24, by decide, by decide +kernel, by decide +kernel, by decide +kernel⟩
set_option maxRecDepth 100000 in
theorem prJx4a65c_init_da8c8 : am_par rJx4a65c_init_da8c8 0 := by unfold am_par; decide +kernel
set_option maxRecDepth 100000 in
theorem mm_LiftGroupLaw_97 : am_mI "LiftGroupLaw" 97 rJx4a65c_init_da8c8 0 := ⟨mkJx4a65c_init_da8c8, rfl, prJx4a65c_init_da8c8, tw_1321, tw_1322, rfl, rfl⟩
set_option maxRecDepth 100000 in
theorem prX6_number : am_par rX6_number 1 := by unfold am_par; decide +kernel
set_option maxRecDepth 100000 in
theorem mm_LiftGroupLaw_98 : am_mV "LiftGroupLaw" 98 rX6_number "LiftGroup" 1 := ⟨mkX6_number, rfl, prX6_number, rfl, tw_657, tw_658, tw_659, tw_1⟩
set_option maxRecDepth 100000 in
theorem prX6_start : am_par rX6_start 1 := by unfold am_par; decide +kernel
set_option maxRecDepth 100000 in
theorem mm_LiftGroupLaw_101 : am_mV "LiftGroupLaw" 101 rX6_start "LiftGroup" 1 := ⟨mkX6_start, rfl, prX6_start, rfl, tw_1348, tw_1349, tw_1350, tw_1⟩
set_option maxRecDepth 100000 in
theorem prX6_destination : am_par rX6_destination 1 := by unfold am_par; decide +kernel
set_option maxRecDepth 100000 in
theorem mm_LiftGroupLaw_104 : am_mV "LiftGroupLaw" 104 rX6_destination "LiftGroup" 1 := ⟨mkX6_destination, rfl, prX6_destination, rfl, tw_1352, tw_1353, tw_1354, tw_1⟩
set_option maxRecDepth 100000 in
theorem prX6_weight : am_par rX6_weight 1 := by unfold am_par; decide +kernel
set_option maxRecDepth 100000 in
theorem mm_LiftGroupLaw_107 : am_mV "LiftGroupLaw" 107 rX6_weight "LiftGroup" 1 := ⟨mkX6_weight, rfl, prX6_weight, rfl, tw_1356, tw_1357, tw_1358, tw_1⟩
set_option maxRecDepth 100000 in
theorem prX6_waitingTime : am_par rX6_waitingTime 1 := by unfold am_par; decide +kernel
set_option maxRecDepth 100000 in
theorem mm_LiftGroupLaw_110 : am_mV "LiftGroupLaw" 110 rX6_waitingTime "LiftGroup" 1 := ⟨mkX6_waitingTime, rfl, prX6_waitingTime, rfl, tw_670, tw_671, tw_672, tw_1⟩
set_option maxRecDepth 100000 in
theorem mkL_carOf : am_mk rL_carOf := ⟨tw_1362, tw_0, by decide, by decide +kernel, by decide +kernel, by decide +kernel⟩
set_option maxRecDepth 100000 in
theorem prL_carOf : am_par rL_carOf 2 := by unfold am_par; decide +kernel
set_option maxRecDepth 100000 in
theorem mm_LiftGroupLaw_113 : am_mS "LiftGroupLaw" 113 rL_carOf 2 := ⟨mkL_carOf, prL_carOf, tw_1360, tw_1361⟩
set_option maxRecDepth 100000 in
theorem prX6_isInCar : am_par rX6_isInCar 1 := by unfold am_par; decide +kernel
set_option maxRecDepth 100000 in
theorem mm_LiftGroupLaw_117 : am_mV "LiftGroupLaw" 117 rX6_isInCar "LiftGroup" 1 := ⟨mkX6_isInCar, rfl, prX6_isInCar, rfl, tw_674, tw_675, tw_676, tw_1⟩
set_option maxRecDepth 100000 in
theorem mkJx4a65c_add_9ea2d : am_mk rJx4a65c_add_9ea2d := ⟨tw_1367, tw_24, by decide, by decide +kernel, by decide +kernel, by decide +kernel⟩
set_option maxRecDepth 100000 in
theorem prJx4a65c_add_9ea2d : am_par rJx4a65c_add_9ea2d 1 := by unfold am_par; decide +kernel
set_option maxRecDepth 100000 in
theorem mm_LiftGroupLaw_120 : am_mV "LiftGroupLaw" 120 rJx4a65c_add_9ea2d "java/util/ArrayList" 1 := ⟨mkJx4a65c_add_9ea2d, rfl, prJx4a65c_add_9ea2d, rfl, tw_1364, tw_1365, tw_1366, tw_24⟩
set_option maxRecDepth 100000 in
theorem mkL_people : am_mk rL_people := ⟨tw_1318, tw_0, by decide, by decide +kernel, by decide +kernel, by decide +kernel⟩
set_option maxRecDepth 100000 in
theorem prX6_carOf : am_par rX6_carOf 1 := by unfold am_par; decide +kernel
set_option maxRecDepth 100000 in
theorem mm_LiftGroupLaw_124 : am_mV "LiftGroupLaw" 124 rX6_carOf "LiftGroup" 1 := ⟨mkX6_carOf, rfl, prX6_carOf, rfl, tw_678, tw_679, tw_680, tw_1⟩
set_option maxRecDepth 100000 in
theorem am_castN_NoSuchElementException : Cond.castable "java/util/NoSuchElementException" "java/util/NoSuchElementException" ∈ am_gt ∨ Cond.castable "java/util/NoSuchElementException" "java/util/NoSuchElementException" ∈ am_nw := by decide +kernel
set_option maxRecDepth 100000 in
theorem prX6_time : am_par rX6_time 0 := by unfold am_par; decide +kernel
set_option maxRecDepth 100000 in
theorem mm_LiftGroupLaw_128 : am_mV "LiftGroupLaw" 128 rX6_time "LiftGroup" 0 := ⟨mkX6_time, rfl, prX6_time, rfl, tw_1296, tw_1297, tw_1298, tw_1⟩
set_option maxRecDepth 100000 in
theorem prX6_tripCount : am_par rX6_tripCount 0 := by unfold am_par; decide +kernel
set_option maxRecDepth 100000 in
theorem mm_LiftGroupLaw_131 : am_mV "LiftGroupLaw" 131 rX6_tripCount "LiftGroup" 0 := ⟨mkX6_tripCount, rfl, prX6_tripCount, rfl, tw_1300, tw_1301, tw_1302, tw_1⟩
set_option maxRecDepth 100000 in
theorem prX6_totalEnergy : am_par rX6_totalEnergy 0 := by unfold am_par; decide +kernel
set_option maxRecDepth 100000 in
theorem mm_LiftGroupLaw_134 : am_mV "LiftGroupLaw" 134 rX6_totalEnergy "LiftGroup" 0 := ⟨mkX6_totalEnergy, rfl, prX6_totalEnergy, rfl, tw_776, tw_777, tw_778, tw_1⟩
set_option maxRecDepth 100000 in
theorem prL_cars : am_par rL_cars 1 := by unfold am_par; decide +kernel
set_option maxRecDepth 100000 in
theorem mm_LiftGroupLaw_138 : am_mS "LiftGroupLaw" 138 rL_cars 1 := ⟨mkL_cars, prL_cars, tw_1304, tw_1305⟩
set_option maxRecDepth 100000 in
theorem prL_people : am_par rL_people 1 := by unfold am_par; decide +kernel
set_option maxRecDepth 100000 in
theorem mm_LiftGroupLaw_142 : am_mS "LiftGroupLaw" 142 rL_people 1 := ⟨mkL_people, prL_people, tw_1316, tw_1317⟩
set_option maxRecDepth 100000 in
theorem mkJx4a65c_iterator_32c93 : am_mk rJx4a65c_iterator_32c93 := ⟨tw_1418, tw_24, by decide, by decide +kernel, by decide +kernel, by decide +kernel⟩
set_option maxRecDepth 100000 in
theorem prJx4a65c_iterator_32c93 : am_par rJx4a65c_iterator_32c93 0 := by unfold am_par; decide +kernel
set_option maxRecDepth 100000 in
theorem mm_LiftGroupLaw_146 : am_mV "LiftGroupLaw" 146 rJx4a65c_iterator_32c93 "java/util/ArrayList" 0 := ⟨mkJx4a65c_iterator_32c93, rfl, prJx4a65c_iterator_32c93, rfl, tw_1415, tw_1416, tw_1417, tw_24⟩
set_option maxRecDepth 100000 in
theorem mkJx35411_hasNext_aae02 : am_mk rJx35411_hasNext_aae02 := ⟨tw_1447, tw_28, by decide, by decide +kernel, by decide +kernel, by decide +kernel⟩
set_option maxRecDepth 100000 in
theorem mf_LiftGroupLaw_150 : am_mF "LiftGroupLaw" 150 ⟨"java/util/Iterator", "hasNext", "()Z"⟩ rJx35411_hasNext_aae02 "java/util/ArrayList$Itr" 0 := ⟨mkJx35411_hasNext_aae02, rfl, by decide +kernel, tw_1439, tw_1443, tw_1445, by decide, by decide⟩
set_option maxRecDepth 100000 in
theorem mkJx35411_next_0502b : am_mk rJx35411_next_0502b := ⟨tw_1456, tw_28, by decide, by decide +kernel, by decide +kernel, by decide +kernel⟩
set_option maxRecDepth 100000 in
theorem mf_LiftGroupLaw_156 : am_mF "LiftGroupLaw" 156 ⟨"java/util/Iterator", "next", "()Ljava/lang/Object;"⟩ rJx35411_next_0502b "java/util/ArrayList$Itr" 0 := ⟨mkJx35411_next_0502b, rfl, by decide +kernel, tw_1449, tw_1452, tw_1454, by decide, by decide⟩
set_option maxRecDepth 100000 in
theorem mkL_state : am_mk rL_state := ⟨tw_1295, tw_0, by decide, by decide +kernel, by decide +kernel, by decide +kernel⟩
set_option maxRecDepth 100000 in
theorem prL_build : am_par rL_build 1 := by unfold am_par; decide +kernel
set_option maxRecDepth 100000 in
theorem mm_LiftGroupLaw_175 : am_mS "LiftGroupLaw" 175 rL_build 1 := ⟨mkL_build, prL_build, tw_1274, tw_1275⟩
set_option maxRecDepth 100000 in
theorem prX6_save : am_par rX6_save 0 := by unfold am_par; decide +kernel
set_option maxRecDepth 100000 in
theorem mm_LiftGroupLaw_179 : am_mV "LiftGroupLaw" 179 rX6_save "LiftGroup" 0 := ⟨mkX6_save, rfl, prX6_save, rfl, tw_1237, tw_1238, tw_1239, tw_1⟩
set_option maxRecDepth 100000 in
theorem prL_state : am_par rL_state 1 := by unfold am_par; decide +kernel
set_option maxRecDepth 100000 in
theorem mm_LiftGroupLaw_182 : am_mS "LiftGroupLaw" 182 rL_state 1 := ⟨mkL_state, prL_state, tw_1293, tw_1294⟩
set_option maxRecDepth 100000 in
theorem ts_LiftGroupLaw_186 : ("LiftGroupLaw", 186, "step 3;limit 1 900;step") ∈ am_st := by decide +kernel
set_option maxRecDepth 100000 in
theorem prL_put : am_par rL_put 2 := by unfold am_par; decide +kernel
set_option maxRecDepth 100000 in
theorem mm_LiftGroupLaw_188 : am_mS "LiftGroupLaw" 188 rL_put 2 := ⟨mkL_put, prL_put, tw_1249, tw_1250⟩
set_option maxRecDepth 100000 in
theorem prX6_runScript : am_par rX6_runScript 0 := by unfold am_par; decide +kernel
set_option maxRecDepth 100000 in
theorem mm_LiftGroupLaw_192 : am_mV "LiftGroupLaw" 192 rX6_runScript "LiftGroup" 0 := ⟨mkX6_runScript, rfl, prX6_runScript, rfl, tw_846, tw_847, tw_848, tw_1⟩
set_option maxRecDepth 100000 in
theorem prX6_undo : am_par rX6_undo 0 := by unfold am_par; decide +kernel
set_option maxRecDepth 100000 in
theorem mm_LiftGroupLaw_195 : am_mV "LiftGroupLaw" 195 rX6_undo "LiftGroup" 0 := ⟨mkX6_undo, rfl, prX6_undo, rfl, tw_1228, tw_1229, tw_1230, tw_1⟩
set_option maxRecDepth 100000 in
theorem ts_LiftGroupLaw_198 : ("LiftGroupLaw", 198, "step;call 3 3 50") ∈ am_st := by decide +kernel
set_option maxRecDepth 100000 in
theorem mkL_runs : am_mk rL_runs := ⟨tw_1474, tw_0, by decide, by decide +kernel, by decide +kernel, by decide +kernel⟩
set_option maxRecDepth 100000 in
theorem prL_runs : am_par rL_runs 1 := by unfold am_par; decide +kernel
set_option maxRecDepth 100000 in
theorem mm_LiftGroupLaw_200 : am_mS "LiftGroupLaw" 200 rL_runs 1 := ⟨mkL_runs, prL_runs, tw_1472, tw_1473⟩
set_option maxRecDepth 100000 in
theorem prX6_failedCommand : am_par rX6_failedCommand 0 := by unfold am_par; decide +kernel
set_option maxRecDepth 100000 in
theorem mm_LiftGroupLaw_203 : am_mV "LiftGroupLaw" 203 rX6_failedCommand "LiftGroup" 0 := ⟨mkX6_failedCommand, rfl, prX6_failedCommand, rfl, tw_1223, tw_1224, tw_1225, tw_1⟩
set_option maxRecDepth 100000 in
theorem ts_LiftGroupLaw_206 : ("LiftGroupLaw", 206, "step 31") ∈ am_st := by decide +kernel
set_option maxRecDepth 100000 in
theorem ts_LiftGroupLaw_208 : ("LiftGroupLaw", 208, "st") ∈ am_st := by decide +kernel
set_option maxRecDepth 100000 in
theorem mkL_fails : am_mk rL_fails := ⟨tw_1477, tw_0, by decide, by decide +kernel, by decide +kernel, by decide +kernel⟩
set_option maxRecDepth 100000 in
theorem prL_fails : am_par rL_fails 3 := by unfold am_par; decide +kernel
set_option maxRecDepth 100000 in
theorem mm_LiftGroupLaw_210 : am_mS "LiftGroupLaw" 210 rL_fails 3 := ⟨mkL_fails, prL_fails, tw_1475, tw_1476⟩
set_option maxRecDepth 100000 in
theorem ts_LiftGroupLaw_214 : ("LiftGroupLaw", 214, "call 0 9") ∈ am_st := by decide +kernel
set_option maxRecDepth 100000 in
theorem ts_LiftGroupLaw_216 : ("LiftGroupLaw", 216, "step ") ∈ am_st := by decide +kernel
set_option maxRecDepth 100000 in
theorem ts_LiftGroupLaw_218 : ("LiftGroupLaw", 218, "hold 0") ∈ am_st := by decide +kernel
set_option maxRecDepth 100000 in
theorem ts_LiftGroupLaw_220 : ("LiftGroupLaw", 220, "limit 0 1234") ∈ am_st := by decide +kernel
set_option maxRecDepth 100000 in
theorem ts_LiftGroupLaw_222 : ("LiftGroupLaw", 222, "") ∈ am_st := by decide +kernel
set_option maxRecDepth 100000 in
theorem ts_LiftGroupLaw_224 : ("LiftGroupLaw", 224, "stop 0;") ∈ am_st := by decide +kernel
set_option maxRecDepth 100000 in
theorem ts_LiftGroupLaw_226 : ("LiftGroupLaw", 226, "l") ∈ am_st := by decide +kernel
set_option maxRecDepth 100000 in
theorem ts_LiftGroupLaw_228 : ("LiftGroupLaw", 228, "call 0 12") ∈ am_st := by decide +kernel
set_option maxRecDepth 100000 in
theorem ts_LiftGroupLaw_230 : ("LiftGroupLaw", 230, "start x") ∈ am_st := by decide +kernel
set_option maxRecDepth 100000 in
theorem ts_LiftGroupLaw_232 : ("LiftGroupLaw", 232, "z") ∈ am_st := by decide +kernel
set_option maxRecDepth 100000 in
theorem prX6_isConsistent : am_par rX6_isConsistent 0 := by unfold am_par; decide +kernel
set_option maxRecDepth 100000 in
theorem mm_LiftGroupLaw_234 : am_mV "LiftGroupLaw" 234 rX6_isConsistent "LiftGroup" 0 := ⟨mkX6_isConsistent, rfl, prX6_isConsistent, rfl, tw_825, tw_826, tw_827, tw_1⟩
set_option maxRecDepth 100000 in
theorem prX6_bestCar : am_par rX6_bestCar 2 := by unfold am_par; decide +kernel
set_option maxRecDepth 100000 in
theorem mm_LiftGroupLaw_237 : am_mV "LiftGroupLaw" 237 rX6_bestCar "LiftGroup" 2 := ⟨mkX6_bestCar, rfl, prX6_bestCar, rfl, tw_704, tw_705, tw_706, tw_1⟩
set_option maxRecDepth 100000 in
theorem prX6_tripsWithin : am_par rX6_tripsWithin 1 := by unfold am_par; decide +kernel
set_option maxRecDepth 100000 in
theorem mm_LiftGroupLaw_240 : am_mV "LiftGroupLaw" 240 rX6_tripsWithin "LiftGroup" 1 := ⟨mkX6_tripsWithin, rfl, prX6_tripsWithin, rfl, tw_733, tw_734, tw_735, tw_1⟩
set_option maxRecDepth 100000 in
theorem prX6_carByEnergy : am_par rX6_carByEnergy 1 := by unfold am_par; decide +kernel
set_option maxRecDepth 100000 in
theorem mm_LiftGroupLaw_243 : am_mV "LiftGroupLaw" 243 rX6_carByEnergy "LiftGroup" 1 := ⟨mkX6_carByEnergy, rfl, prX6_carByEnergy, rfl, tw_738, tw_739, tw_740, tw_1⟩
set_option maxRecDepth 100000 in
theorem prX6_stepsUntilBoarding : am_par rX6_stepsUntilBoarding 1 := by unfold am_par; decide +kernel
set_option maxRecDepth 100000 in
theorem mm_LiftGroupLaw_246 : am_mV "LiftGroupLaw" 246 rX6_stepsUntilBoarding "LiftGroup" 1 := ⟨mkX6_stepsUntilBoarding, rfl, prX6_stepsUntilBoarding, rfl, tw_712, tw_713, tw_714, tw_1⟩
set_option maxRecDepth 100000 in
theorem prX6_stepsUntilArrival : am_par rX6_stepsUntilArrival 1 := by unfold am_par; decide +kernel
set_option maxRecDepth 100000 in
theorem mm_LiftGroupLaw_249 : am_mV "LiftGroupLaw" 249 rX6_stepsUntilArrival "LiftGroup" 1 := ⟨mkX6_stepsUntilArrival, rfl, prX6_stepsUntilArrival, rfl, tw_727, tw_728, tw_729, tw_1⟩
set_option maxRecDepth 100000 in
theorem prX6_nextStop : am_par rX6_nextStop 1 := by unfold am_par; decide +kernel
set_option maxRecDepth 100000 in
theorem mm_LiftGroupLaw_252 : am_mV "LiftGroupLaw" 252 rX6_nextStop "LiftGroup" 1 := ⟨mkX6_nextStop, rfl, prX6_nextStop, rfl, tw_630, tw_631, tw_632, tw_1⟩
set_option maxRecDepth 100000 in
theorem prX6_estimate : am_par rX6_estimate 2 := by unfold am_par; decide +kernel
set_option maxRecDepth 100000 in
theorem mm_LiftGroupLaw_255 : am_mV "LiftGroupLaw" 255 rX6_estimate "LiftGroup" 2 := ⟨mkX6_estimate, rfl, prX6_estimate, rfl, tw_683, tw_684, tw_685, tw_1⟩
set_option maxRecDepth 100000 in
theorem prX6_estimateByWalk : am_par rX6_estimateByWalk 2 := by unfold am_par; decide +kernel
set_option maxRecDepth 100000 in
theorem mm_LiftGroupLaw_257 : am_mV "LiftGroupLaw" 257 rX6_estimateByWalk "LiftGroup" 2 := ⟨mkX6_estimateByWalk, rfl, prX6_estimateByWalk, rfl, tw_692, tw_693, tw_694, tw_1⟩
set_option maxRecDepth 100000 in
theorem prX6_load : am_par rX6_load 1 := by unfold am_par; decide +kernel
set_option maxRecDepth 100000 in
theorem mm_LiftGroupLaw_260 : am_mV "LiftGroupLaw" 260 rX6_load "LiftGroup" 1 := ⟨mkX6_load, rfl, prX6_load, rfl, tw_614, tw_615, tw_616, tw_1⟩
set_option maxRecDepth 100000 in
theorem prX6_tripNumber : am_par rX6_tripNumber 1 := by unfold am_par; decide +kernel
set_option maxRecDepth 100000 in
theorem mm_LiftGroupLaw_262 : am_mV "LiftGroupLaw" 262 rX6_tripNumber "LiftGroup" 1 := ⟨mkX6_tripNumber, rfl, prX6_tripNumber, rfl, tw_751, tw_752, tw_753, tw_1⟩
set_option maxRecDepth 100000 in
theorem prX6_tripCar : am_par rX6_tripCar 1 := by unfold am_par; decide +kernel
set_option maxRecDepth 100000 in
theorem mm_LiftGroupLaw_265 : am_mV "LiftGroupLaw" 265 rX6_tripCar "LiftGroup" 1 := ⟨mkX6_tripCar, rfl, prX6_tripCar, rfl, tw_768, tw_769, tw_770, tw_1⟩
set_option maxRecDepth 100000 in
theorem prX6_tripWaiting : am_par rX6_tripWaiting 1 := by unfold am_par; decide +kernel
set_option maxRecDepth 100000 in
theorem mm_LiftGroupLaw_268 : am_mV "LiftGroupLaw" 268 rX6_tripWaiting "LiftGroup" 1 := ⟨mkX6_tripWaiting, rfl, prX6_tripWaiting, rfl, tw_772, tw_773, tw_774, tw_1⟩
set_option maxRecDepth 100000 in
theorem prX6_floorsUp : am_par rX6_floorsUp 0 := by unfold am_par; decide +kernel
set_option maxRecDepth 100000 in
theorem mm_LiftGroupLaw_271 : am_mV "LiftGroupLaw" 271 rX6_floorsUp "LiftGroup" 0 := ⟨mkX6_floorsUp, rfl, prX6_floorsUp, rfl, tw_793, tw_794, tw_795, tw_1⟩
set_option maxRecDepth 100000 in
theorem prX6_floorsDown : am_par rX6_floorsDown 0 := by unfold am_par; decide +kernel
set_option maxRecDepth 100000 in
theorem mm_LiftGroupLaw_274 : am_mV "LiftGroupLaw" 274 rX6_floorsDown "LiftGroup" 0 := ⟨mkX6_floorsDown, rfl, prX6_floorsDown, rfl, tw_797, tw_798, tw_799, tw_1⟩
set_option maxRecDepth 100000 in
theorem prX6_doorOpenings : am_par rX6_doorOpenings 0 := by unfold am_par; decide +kernel
set_option maxRecDepth 100000 in
theorem mm_LiftGroupLaw_277 : am_mV "LiftGroupLaw" 277 rX6_doorOpenings "LiftGroup" 0 := ⟨mkX6_doorOpenings, rfl, prX6_doorOpenings, rfl, tw_801, tw_802, tw_803, tw_1⟩
set_option maxRecDepth 100000 in
theorem prX6_totalEnergyByMoves : am_par rX6_totalEnergyByMoves 0 := by unfold am_par; decide +kernel
set_option maxRecDepth 100000 in
theorem mm_LiftGroupLaw_284 : am_mV "LiftGroupLaw" 284 rX6_totalEnergyByMoves "LiftGroup" 0 := ⟨mkX6_totalEnergyByMoves, rfl, prX6_totalEnergyByMoves, rfl, tw_784, tw_785, tw_786, tw_1⟩
set_option maxRecDepth 100000 in
theorem prX6_meanWaiting : am_par rX6_meanWaiting 0 := by unfold am_par; decide +kernel
set_option maxRecDepth 100000 in
theorem mm_LiftGroupLaw_287 : am_mV "LiftGroupLaw" 287 rX6_meanWaiting "LiftGroup" 0 := ⟨mkX6_meanWaiting, rfl, prX6_meanWaiting, rfl, tw_805, tw_806, tw_807, tw_1⟩
set_option maxRecDepth 100000 in
theorem prX6_passengersIn : am_par rX6_passengersIn 1 := by unfold am_par; decide +kernel
set_option maxRecDepth 100000 in
theorem mm_LiftGroupLaw_291 : am_mV "LiftGroupLaw" 291 rX6_passengersIn "LiftGroup" 1 := ⟨mkX6_passengersIn, rfl, prX6_passengersIn, rfl, tw_618, tw_619, tw_620, tw_1⟩
set_option maxRecDepth 100000 in
theorem prX6_restore : am_par rX6_restore 0 := by unfold am_par; decide +kernel
set_option maxRecDepth 100000 in
theorem mm_LiftGroupLaw_294 : am_mV "LiftGroupLaw" 294 rX6_restore "LiftGroup" 0 := ⟨mkX6_restore, rfl, prX6_restore, rfl, tw_1241, tw_1242, tw_1243, tw_1⟩
set_option maxRecDepth 100000 in
theorem prX6_errorPosition : am_par rX6_errorPosition 0 := by unfold am_par; decide +kernel
set_option maxRecDepth 100000 in
theorem mm_LiftGroupLaw_297 : am_mV "LiftGroupLaw" 297 rX6_errorPosition "LiftGroup" 0 := ⟨mkX6_errorPosition, rfl, prX6_errorPosition, rfl, tw_1478, tw_1479, tw_1480, tw_1⟩
set_option maxRecDepth 100000 in
theorem mkJ5_init_d00df : am_mk rJ5_init_d00df := ⟨tw_241, tw_8, by decide, by decide +kernel, by decide +kernel, by decide +kernel⟩
set_option maxRecDepth 100000 in
theorem prJ5_init_d00df : am_par rJ5_init_d00df 1 := by unfold am_par; decide +kernel
set_option maxRecDepth 100000 in
theorem mm_java_lang_StringBuilder_1 : am_mI "java/lang/StringBuilder" 1 rJ5_init_d00df 1 := ⟨mkJ5_init_d00df, rfl, prJ5_init_d00df, tw_239, tw_240, rfl, rfl⟩
set_option maxRecDepth 100000 in
theorem mkJ2_newBytesFor_77867 : am_mk rJ2_newBytesFor_77867 := ⟨tw_247, tw_11, by decide, by decide +kernel, by decide +kernel, by decide +kernel⟩
set_option maxRecDepth 100000 in
theorem prJ2_newBytesFor_77867 : am_par rJ2_newBytesFor_77867 1 := by unfold am_par; decide +kernel
set_option maxRecDepth 100000 in
theorem mm_java_lang_AbstractStringBuilder_26 : am_mS "java/lang/AbstractStringBuilder" 26 rJ2_newBytesFor_77867 1 := ⟨mkJ2_newBytesFor_77867, prJ2_newBytesFor_77867, tw_245, tw_246⟩
set_option maxRecDepth 100000 in
theorem ff_java_lang_AbstractStringBuilder_15 : am_F "java/lang/AbstractStringBuilder" 15 8 0 := ⟨RJ4, TJ4, 4, rfl, by decide, tw_252⟩
set_option maxRecDepth 100000 in
theorem ff_java_lang_AbstractStringBuilder_22 : am_F "java/lang/AbstractStringBuilder" 22 8 1 := ⟨RJ4, TJ4, 4, rfl, by decide, tw_253⟩
set_option maxRecDepth 100000 in
theorem mkJ5_append_3fe6f : am_mk rJ5_append_3fe6f := ⟨tw_1267, tw_8, by decide, by decide +kernel, by decide +kernel, by decide +kernel⟩
set_option maxRecDepth 100000 in
theorem prJ5_append_3fe6f : am_par rJ5_append_3fe6f 1 := by unfold am_par; decide +kernel
set_option maxRecDepth 100000 in
theorem mm_java_lang_StringBuilder_50 : am_mSU "java/lang/StringBuilder" 50 rJ5_append_3fe6f 1 := ⟨mkJ5_append_3fe6f, rfl, prJ5_append_3fe6f, tw_1265, tw_1512, tw_265, tw_1266, by decide⟩
set_option maxRecDepth 100000 in
theorem ff_java_lang_AbstractStringBuilder_79 : am_F "java/lang/AbstractStringBuilder" 79 8 3 := ⟨RJ4, TJ4, 4, rfl, by decide, tw_256⟩
set_option maxRecDepth 100000 in
theorem mkJ5_ensureCapacityInternal_d00df : am_mk rJ5_ensureCapacityInternal_d00df := ⟨tw_981, tw_8, by decide, by decide +kernel, by decide +kernel, by decide +kernel⟩
set_option maxRecDepth 100000 in
theorem prJ5_ensureCapacityInternal_d00df : am_par rJ5_ensureCapacityInternal_d00df 1 := by unfold am_par; decide +kernel
set_option maxRecDepth 100000 in
theorem mm_java_lang_AbstractStringBuilder_100 : am_mU2 "java/lang/AbstractStringBuilder" 100 rJ5_ensureCapacityInternal_d00df "java/lang/StringBuilder" 1 := ⟨mkJ5_ensureCapacityInternal_d00df, rfl, prJ5_ensureCapacityInternal_d00df, tw_978, tw_1505, tw_980, .inr ⟨tn_979, _, ⟨"java/lang/AbstractStringBuilder", "isLatin1", "()Z"⟩, tw_235, rfl, tw_1010⟩⟩
set_option maxRecDepth 100000 in
theorem mkJ5_isLatin1_aae02 : am_mk rJ5_isLatin1_aae02 := ⟨tw_1011, tw_8, by decide, by decide +kernel, by decide +kernel, by decide +kernel⟩
set_option maxRecDepth 100000 in
theorem prJ5_isLatin1_aae02 : am_par rJ5_isLatin1_aae02 0 := by unfold am_par; decide +kernel
set_option maxRecDepth 100000 in
theorem mm_java_lang_AbstractStringBuilder_83 : am_mU2 "java/lang/AbstractStringBuilder" 83 rJ5_isLatin1_aae02 "java/lang/StringBuilder" 0 := ⟨mkJ5_isLatin1_aae02, rfl, prJ5_isLatin1_aae02, tw_1007, tw_1009, tw_1008, .inl tw_1010⟩
set_option maxRecDepth 100000 in
theorem mkJ2_putCharSB_b72d1 : am_mk rJ2_putCharSB_b72d1 := ⟨tw_1273, tw_11, by decide, by decide +kernel, by decide +kernel, by decide +kernel⟩
set_option maxRecDepth 100000 in
theorem prJ2_putCharSB_b72d1 : am_par rJ2_putCharSB_b72d1 3 := by unfold am_par; decide +kernel
set_option maxRecDepth 100000 in
theorem mm_java_lang_AbstractStringBuilder_197 : am_mS "java/lang/AbstractStringBuilder" 197 rJ2_putCharSB_b72d1 3 := ⟨mkJ2_putCharSB_b72d1, prJ2_putCharSB_b72d1, tw_1271, tw_1272⟩
set_option maxRecDepth 100000 in
theorem mkJ5_inflate_da8c8 : am_mk rJ5_inflate_da8c8 := ⟨tw_1040, tw_8, by decide, by decide +kernel, by decide +kernel, by decide +kernel⟩
set_option maxRecDepth 100000 in
theorem prJ5_inflate_da8c8 : am_par rJ5_inflate_da8c8 0 := by unfold am_par; decide +kernel
set_option maxRecDepth 100000 in
theorem mm_java_lang_AbstractStringBuilder_195 : am_mU2 "java/lang/AbstractStringBuilder" 195 rJ5_inflate_da8c8 "java/lang/StringBuilder" 0 := ⟨mkJ5_inflate_da8c8, rfl, prJ5_inflate_da8c8, tw_1037, tw_1509, tw_1039, .inr ⟨tn_1038, _, ⟨"java/lang/AbstractStringBuilder", "isLatin1", "()Z"⟩, tw_235, rfl, tw_1010⟩⟩
set_option maxRecDepth 100000 in
theorem mkJ1_canEncode_fc78d : am_mk rJ1_canEncode_fc78d := ⟨tw_1270, tw_29, by decide, by decide +kernel, by decide +kernel, by decide +kernel⟩
set_option maxRecDepth 100000 in
theorem prJ1_canEncode_fc78d : am_par rJ1_canEncode_fc78d 1 := by unfold am_par; decide +kernel
set_option maxRecDepth 100000 in
theorem mm_java_lang_AbstractStringBuilder_191 : am_mS "java/lang/AbstractStringBuilder" 191 rJ1_canEncode_fc78d 1 := ⟨mkJ1_canEncode_fc78d, prJ1_canEncode_fc78d, tw_1268, tw_1269⟩
set_option maxRecDepth 100000 in
theorem mkJ5_newCapacity_0f7a4 : am_mk rJ5_newCapacity_0f7a4 := ⟨tw_985, tw_8, by decide, by decide +kernel, by decide +kernel, by decide +kernel⟩
set_option maxRecDepth 100000 in
theorem prJ5_newCapacity_0f7a4 : am_par rJ5_newCapacity_0f7a4 1 := by unfold am_par; decide +kernel
set_option maxRecDepth 100000 in
theorem mm_java_lang_AbstractStringBuilder_104 : am_mU2 "java/lang/AbstractStringBuilder" 104 rJ5_newCapacity_0f7a4 "java/lang/StringBuilder" 1 := ⟨mkJ5_newCapacity_0f7a4, rfl, prJ5_newCapacity_0f7a4, tw_982, tw_1506, tw_984, .inr ⟨tn_983, _, ⟨"java/lang/AbstractStringBuilder", "isLatin1", "()Z"⟩, tw_235, rfl, tw_1010⟩⟩
set_option maxRecDepth 100000 in
theorem mkJ7_copyOf_9075b : am_mk rJ7_copyOf_9075b := ⟨tw_997, tw_27, by decide, by decide +kernel, by decide +kernel, by decide +kernel⟩
set_option maxRecDepth 100000 in
theorem prJ7_copyOf_9075b : am_par rJ7_copyOf_9075b 2 := by unfold am_par; decide +kernel
set_option maxRecDepth 100000 in
theorem mm_java_lang_AbstractStringBuilder_108 : am_mS "java/lang/AbstractStringBuilder" 108 rJ7_copyOf_9075b 2 := ⟨mkJ7_copyOf_9075b, prJ7_copyOf_9075b, tw_995, tw_996⟩
set_option maxRecDepth 100000 in
theorem mkJ8_newLength_cabcc : am_mk rJ8_newLength_cabcc := ⟨tw_988, tw_26, by decide, by decide +kernel, by decide +kernel, by decide +kernel⟩
set_option maxRecDepth 100000 in
theorem prJ8_newLength_cabcc : am_par rJ8_newLength_cabcc 3 := by unfold am_par; decide +kernel
set_option maxRecDepth 100000 in
theorem mm_java_lang_AbstractStringBuilder_114 : am_mS "java/lang/AbstractStringBuilder" 114 rJ8_newLength_cabcc 3 := ⟨mkJ8_newLength_cabcc, prJ8_newLength_cabcc, tw_986, tw_987⟩
set_option maxRecDepth 100000 in
theorem mkJ8_hugeLength_7cf53 : am_mk rJ8_hugeLength_7cf53 := ⟨tw_993, tw_26, by decide, by decide +kernel, by decide +kernel, by decide +kernel⟩
set_option maxRecDepth 100000 in
theorem prJ8_hugeLength_7cf53 : am_par rJ8_hugeLength_7cf53 2 := by unfold am_par; decide +kernel
set_option maxRecDepth 100000 in
theorem mm_jdk_internal_util_ArraysSupport_201 : am_mS "jdk/internal/util/ArraysSupport" 201 rJ8_hugeLength_7cf53 2 := ⟨mkJ8_hugeLength_7cf53, prJ8_hugeLength_7cf53, tw_991, tw_992⟩
set_option maxRecDepth 100000 in
theorem mkJ5_charAt_5068e : am_mk rJ5_charAt_5068e := ⟨tw_937, tw_8, by decide, by decide +kernel, by decide +kernel, by decide +kernel⟩
set_option maxRecDepth 100000 in
theorem prJ5_charAt_5068e : am_par rJ5_charAt_5068e 1 := by unfold am_par; decide +kernel
set_option maxRecDepth 100000 in
theorem mm_java_lang_StringBuilder_329 : am_mSU "java/lang/StringBuilder" 329 rJ5_charAt_5068e 1 := ⟨mkJ5_charAt_5068e, rfl, prJ5_charAt_5068e, tw_935, tw_1501, tw_265, tw_936, by decide⟩
set_option maxRecDepth 100000 in
theorem mkJ0_checkIndex_df160 : am_mk rJ0_checkIndex_df160 := ⟨tw_895, tw_10, by decide, by decide +kernel, by decide +kernel, by decide +kernel⟩
set_option maxRecDepth 100000 in
theorem prJ0_checkIndex_df160 : am_par rJ0_checkIndex_df160 2 := by unfold am_par; decide +kernel
set_option maxRecDepth 100000 in
theorem mm_java_lang_AbstractStringBuilder_144 : am_mS "java/lang/AbstractStringBuilder" 144 rJ0_checkIndex_df160 2 := ⟨mkJ0_checkIndex_df160, prJ0_checkIndex_df160, tw_939, tw_894⟩
set_option maxRecDepth 100000 in
theorem mkJ2_getChar_3b067 : am_mk rJ2_getChar_3b067 := ⟨tw_913, tw_11, by decide, by decide +kernel, by decide +kernel, by decide +kernel⟩
set_option maxRecDepth 100000 in
theorem prJ2_getChar_3b067 : am_par rJ2_getChar_3b067 2 := by unfold am_par; decide +kernel
set_option maxRecDepth 100000 in
theorem mm_java_lang_AbstractStringBuilder_148 : am_mS "java/lang/AbstractStringBuilder" 148 rJ2_getChar_3b067 2 := ⟨mkJ2_getChar_3b067, prJ2_getChar_3b067, tw_940, tw_912⟩
set_option maxRecDepth 100000 in
theorem mkJ3_checkIndex_8e157 : am_mk rJ3_checkIndex_8e157 := ⟨tw_900, tw_30, by decide, by decide +kernel, by decide +kernel, by decide +kernel⟩
set_option maxRecDepth 100000 in
theorem mkJ5_length_8abf5 : am_mk rJ5_length_8abf5 := ⟨tw_930, tw_8, by decide, by decide +kernel, by decide +kernel, by decide +kernel⟩
set_option maxRecDepth 100000 in
theorem prJ5_length_8abf5 : am_par rJ5_length_8abf5 0 := by unfold am_par; decide +kernel
set_option maxRecDepth 100000 in
theorem mm_java_lang_StringBuilder_343 : am_mSU "java/lang/StringBuilder" 343 rJ5_length_8abf5 0 := ⟨mkJ5_length_8abf5, rfl, prJ5_length_8abf5, tw_928, tw_1500, tw_265, tw_929, by decide⟩
set_option maxRecDepth 100000 in
theorem mkJ5_setLength_d00df : am_mk rJ5_setLength_d00df := ⟨tw_958, tw_8, by decide, by decide +kernel, by decide +kernel, by decide +kernel⟩
set_option maxRecDepth 100000 in
theorem prJ5_setLength_d00df : am_par rJ5_setLength_d00df 1 := by unfold am_par; decide +kernel
set_option maxRecDepth 100000 in
theorem mm_java_lang_StringBuilder_333 : am_mSU "java/lang/StringBuilder" 333 rJ5_setLength_d00df 1 := ⟨mkJ5_setLength_d00df, rfl, prJ5_setLength_d00df, tw_956, tw_1502, tw_265, tw_957, by decide⟩
set_option maxRecDepth 100000 in
theorem ff_java_lang_AbstractStringBuilder_73 : am_F "java/lang/AbstractStringBuilder" 73 8 2 := ⟨RJ4, TJ4, 4, rfl, by decide, tw_254⟩
set_option maxRecDepth 100000 in
theorem mkJ2_fillNull_b72d1 : am_mk rJ2_fillNull_b72d1 := ⟨tw_1190, tw_11, by decide, by decide +kernel, by decide +kernel, by decide +kernel⟩
set_option maxRecDepth 100000 in
theorem prJ2_fillNull_b72d1 : am_par rJ2_fillNull_b72d1 3 := by unfold am_par; decide +kernel
set_option maxRecDepth 100000 in
theorem mm_java_lang_AbstractStringBuilder_137 : am_mS "java/lang/AbstractStringBuilder" 137 rJ2_fillNull_b72d1 3 := ⟨mkJ2_fillNull_b72d1, prJ2_fillNull_b72d1, tw_1188, tw_1189⟩
set_option maxRecDepth 100000 in
theorem mkJ1_fillNull_b72d1 : am_mk rJ1_fillNull_b72d1 := ⟨tw_1155, tw_29, by decide, by decide +kernel, by decide +kernel, by decide +kernel⟩
set_option maxRecDepth 100000 in
theorem prJ1_fillNull_b72d1 : am_par rJ1_fillNull_b72d1 3 := by unfold am_par; decide +kernel
set_option maxRecDepth 100000 in
theorem mm_java_lang_AbstractStringBuilder_133 : am_mS "java/lang/AbstractStringBuilder" 133 rJ1_fillNull_b72d1 3 := ⟨mkJ1_fillNull_b72d1, prJ1_fillNull_b72d1, tw_1153, tw_1154⟩
set_option maxRecDepth 100000 in
theorem ff_java_lang_String_9 : am_F "java/lang/String" 9 9 0 := ⟨RJ0, TJ0, 4, rfl, by decide, tw_1134⟩
set_option maxRecDepth 100000 in
theorem mkJ0_coder_7d493 : am_mk rJ0_coder_7d493 := ⟨tw_880, tw_10, by decide, by decide +kernel, by decide +kernel, by decide +kernel⟩
set_option maxRecDepth 100000 in
theorem prJ0_coder_7d493 : am_par rJ0_coder_7d493 0 := by unfold am_par; decide +kernel
set_option maxRecDepth 100000 in
theorem mm_java_lang_String_335 : am_mV "java/lang/String" 335 rJ0_coder_7d493 "java/lang/String" 0 := ⟨mkJ0_coder_7d493, rfl, prJ0_coder_7d493, rfl, tw_877, tw_878, tw_879, tw_10⟩
set_option maxRecDepth 100000 in
theorem ff_java_lang_String_15 : am_F "java/lang/String" 15 9 1 := ⟨RJ0, TJ0, 4, rfl, by decide, tw_1135⟩
set_option maxRecDepth 100000 in
theorem mkJ0_isLatin1_aae02 : am_mk rJ0_isLatin1_aae02 := ⟨tw_889, tw_10, by decide, by decide +kernel, by decide +kernel, by decide +kernel⟩
set_option maxRecDepth 100000 in
theorem prJ0_isLatin1_aae02 : am_par rJ0_isLatin1_aae02 0 := by unfold am_par; decide +kernel
set_option maxRecDepth 100000 in
theorem mm_java_lang_String_492 : am_mV "java/lang/String" 492 rJ0_isLatin1_aae02 "java/lang/String" 0 := ⟨mkJ0_isLatin1_aae02, rfl, prJ0_isLatin1_aae02, rfl, tw_886, tw_887, tw_888, tw_10⟩
set_option maxRecDepth 100000 in
theorem mkJ2_charAt_3b067 : am_mk rJ2_charAt_3b067 := ⟨tw_903, tw_11, by decide, by decide +kernel, by decide +kernel, by decide +kernel⟩
set_option maxRecDepth 100000 in
theorem prJ2_charAt_3b067 : am_par rJ2_charAt_3b067 2 := by unfold am_par; decide +kernel
set_option maxRecDepth 100000 in
theorem mm_java_lang_String_498 : am_mS "java/lang/String" 498 rJ2_charAt_3b067 2 := ⟨mkJ2_charAt_3b067, prJ2_charAt_3b067, tw_901, tw_902⟩
set_option maxRecDepth 100000 in
theorem mkJ1_charAt_3b067 : am_mk rJ1_charAt_3b067 := ⟨tw_892, tw_29, by decide, by decide +kernel, by decide +kernel, by decide +kernel⟩
set_option maxRecDepth 100000 in
theorem prJ1_charAt_3b067 : am_par rJ1_charAt_3b067 2 := by unfold am_par; decide +kernel
set_option maxRecDepth 100000 in
theorem mm_java_lang_String_495 : am_mS "java/lang/String" 495 rJ1_charAt_3b067 2 := ⟨mkJ1_charAt_3b067, prJ1_charAt_3b067, tw_890, tw_891⟩
set_option maxRecDepth 100000 in
theorem mm_java_lang_StringLatin1_9 : am_mS "java/lang/StringLatin1" 9 rJ0_checkIndex_df160 2 := ⟨mkJ0_checkIndex_df160, prJ0_checkIndex_df160, tw_893, tw_894⟩
set_option maxRecDepth 100000 in
theorem prJ3_checkIndex_8e157 : am_par rJ3_checkIndex_8e157 3 := by unfold am_par; decide +kernel
set_option maxRecDepth 100000 in
theorem mm_java_lang_String_1059 : am_mS "java/lang/String" 1059 rJ3_checkIndex_8e157 3 := ⟨mkJ3_checkIndex_8e157, prJ3_checkIndex_8e157, tw_898, tw_899⟩
set_option maxRecDepth 100000 in
theorem mkJxa1e45_init_da8c8 : am_mk rJxa1e45_init_da8c8 := ⟨tw_1329, tw_22, by decide, by decide +kernel, by decide +kernel, by decide +kernel⟩
set_option maxRecDepth 100000 in
theorem prJxa1e45_init_da8c8 : am_par rJxa1e45_init_da8c8 0 := by unfold am_par; decide +kernel
set_option maxRecDepth 100000 in
theorem mm_java_util_AbstractList_1 : am_mI "java/util/AbstractList" 1 rJxa1e45_init_da8c8 0 := ⟨mkJxa1e45_init_da8c8, rfl, prJxa1e45_init_da8c8, tw_1327, tw_1328, rfl, rfl⟩
set_option maxRecDepth 100000 in
theorem ff_java_util_AbstractList_7 : am_F "java/util/AbstractList" 7 7 0 := ⟨RJx4a65c, TJx4a65c, 3, rfl, by decide, tw_1337⟩
set_option maxRecDepth 100000 in
theorem mkJxc12de_init_da8c8 : am_mk rJxc12de_init_da8c8 := ⟨tw_1326, tw_23, by decide, by decide +kernel, by decide +kernel, by decide +kernel⟩
set_option maxRecDepth 100000 in
theorem prJxc12de_init_da8c8 : am_par rJxc12de_init_da8c8 0 := by unfold am_par; decide +kernel
set_option maxRecDepth 100000 in
theorem mm_java_util_ArrayList_1 : am_mI "java/util/ArrayList" 1 rJxc12de_init_da8c8 0 := ⟨mkJxc12de_init_da8c8, rfl, prJxc12de_init_da8c8, tw_1324, tw_1325, rfl, rfl⟩
set_option maxRecDepth 100000 in
theorem ff_java_util_ArrayList_9 : am_F "java/util/ArrayList" 9 7 1 := ⟨RJx4a65c, TJx4a65c, 3, rfl, by decide, tw_1333⟩
set_option maxRecDepth 100000 in
theorem mm_java_util_ArrayList_73 : am_mS "java/util/ArrayList" 73 rJ8_newLength_cabcc 3 := ⟨mkJ8_newLength_cabcc, prJ8_newLength_cabcc, tw_1380, tw_987⟩
set_option maxRecDepth 100000 in
theorem mkJ7_copyOf_1904c : am_mk rJ7_copyOf_1904c := ⟨tw_1383, tw_27, by decide, by decide +kernel, by decide +kernel, by decide +kernel⟩
set_option maxRecDepth 100000 in
theorem prJ7_copyOf_1904c : am_par rJ7_copyOf_1904c 2 := by unfold am_par; decide +kernel
set_option maxRecDepth 100000 in
theorem mm_java_util_ArrayList_66 : am_mS "java/util/ArrayList" 66 rJ7_copyOf_1904c 2 := ⟨mkJ7_copyOf_1904c, prJ7_copyOf_1904c, tw_1381, tw_1382⟩
set_option maxRecDepth 100000 in
theorem mkJx4a65c_grow_92f84 : am_mk rJx4a65c_grow_92f84 := ⟨tw_1379, tw_24, by decide, by decide +kernel, by decide +kernel, by decide +kernel⟩
set_option maxRecDepth 100000 in
theorem ff_java_util_ArrayList_48 : am_F "java/util/ArrayList" 48 7 2 := ⟨RJx4a65c, TJx4a65c, 3, rfl, by decide, tw_1336⟩
set_option maxRecDepth 100000 in
theorem prJx4a65c_grow_92f84 : am_par rJx4a65c_grow_92f84 1 := by unfold am_par; decide +kernel
set_option maxRecDepth 100000 in
theorem mm_java_util_ArrayList_69 : am_mV "java/util/ArrayList" 69 rJx4a65c_grow_92f84 "java/util/ArrayList" 1 := ⟨mkJx4a65c_grow_92f84, rfl, prJx4a65c_grow_92f84, rfl, tw_1376, tw_1378, tp_15, tw_24⟩
set_option maxRecDepth 100000 in
theorem mkJx4a65c_grow_d5877 : am_mk rJx4a65c_grow_d5877 := ⟨tw_1375, tw_24, by decide, by decide +kernel, by decide +kernel, by decide +kernel⟩
set_option maxRecDepth 100000 in
theorem prJx4a65c_grow_d5877 : am_par rJx4a65c_grow_d5877 0 := by unfold am_par; decide +kernel
set_option maxRecDepth 100000 in
theorem mm_java_util_ArrayList_129 : am_mV "java/util/ArrayList" 129 rJx4a65c_grow_d5877 "java/util/ArrayList" 0 := ⟨mkJx4a65c_grow_d5877, rfl, prJx4a65c_grow_d5877, rfl, tw_1372, tw_1374, tp_14, tw_24⟩
set_option maxRecDepth 100000 in
theorem mkJx4a65c_add_72be8 : am_mk rJx4a65c_add_72be8 := ⟨tw_1371, tw_24, by decide, by decide +kernel, by decide +kernel, by decide +kernel⟩
set_option maxRecDepth 100000 in
theorem fs_java_util_ArrayList_63 : am_FS "java/util/ArrayList" 63 7 0 := ⟨RJx4a65c, TJx4a65c, 3, "java/util/ArrayList", rfl, by decide, tw_1340, tw_1339⟩
set_option maxRecDepth 100000 in
theorem prJx4a65c_add_72be8 : am_par rJx4a65c_add_72be8 3 := by unfold am_par; decide +kernel
set_option maxRecDepth 100000 in
theorem mm_java_util_ArrayList_131 : am_mV "java/util/ArrayList" 131 rJx4a65c_add_72be8 "java/util/ArrayList" 3 := ⟨mkJx4a65c_add_72be8, rfl, prJx4a65c_add_72be8, rfl, tw_1368, tw_1370, tp_13, tw_24⟩
set_option maxRecDepth 100000 in
theorem dv_10 : am_dv 10 := by
  intro k b hk q hq ty hty
  cases hq
  match k, hk, hty with
  | 0, hk, hty => cases hk; have e1 := pp_10_0 _ rfl; cases (e1.2.symm.trans hty); rfl
  | 1, hk, hty => cases hk; have e1 := pp_10_1 _ rfl; cases (e1.2.symm.trans hty); rfl
  | 2, hk, hty => cases hk; have e1 := pp_10_2 _ rfl; cases (e1.2.symm.trans hty); rfl
  | 3, hk, hty => cases hk; have e1 := pp_10_3 _ rfl; cases (e1.2.symm.trans hty); rfl
  | k + 4, hk, hty => simp [am_kd] at hk
set_option maxRecDepth 100000 in
theorem mkJx35411_init_45d68 : am_mk rJx35411_init_45d68 := ⟨tw_1423, tw_28, by decide, by decide +kernel, by decide +kernel, by decide +kernel⟩
set_option maxRecDepth 100000 in
theorem prJx35411_init_45d68 : am_par rJx35411_init_45d68 1 := by unfold am_par; decide +kernel
set_option maxRecDepth 100000 in
theorem mm_java_util_ArrayList_269 : am_mI "java/util/ArrayList" 269 rJx35411_init_45d68 1 := ⟨mkJx35411_init_45d68, rfl, prJx35411_init_45d68, tw_1421, tw_1422, rfl, rfl⟩
set_option maxRecDepth 100000 in
theorem ff_java_util_ArrayList_Itr_1 : am_F "java/util/ArrayList$Itr" 1 10 3 := ⟨RJx35411, TJx35411, 4, rfl, by decide, tw_1428⟩
set_option maxRecDepth 100000 in
theorem ff_java_util_ArrayList_Itr_13 : am_F "java/util/ArrayList$Itr" 13 10 1 := ⟨RJx35411, TJx35411, 4, rfl, by decide, tw_1426⟩
set_option maxRecDepth 100000 in
theorem fs_java_util_ArrayList_Itr_17 : am_FS "java/util/ArrayList$Itr" 17 7 0 := ⟨RJx4a65c, TJx4a65c, 3, "java/util/ArrayList", rfl, by decide, tw_1338, tw_1339⟩
set_option maxRecDepth 100000 in
theorem ff_java_util_ArrayList_Itr_22 : am_F "java/util/ArrayList$Itr" 22 10 2 := ⟨RJx35411, TJx35411, 4, rfl, by decide, tw_1427⟩
set_option maxRecDepth 100000 in
theorem ff_java_util_ArrayList_Itr_25 : am_F "java/util/ArrayList$Itr" 25 10 0 := ⟨RJx35411, TJx35411, 4, rfl, by decide, tw_1425⟩
set_option maxRecDepth 100000 in
theorem fn_java_util_ArrayList_Itr_28 : am_FN "java/util/ArrayList$Itr" 28 7 2 := ⟨RJx4a65c, TJx4a65c, 3, "java/util/ArrayList", rfl, by decide, tn_1335⟩
set_option maxRecDepth 100000 in
theorem mkJx35411_checkForComodification_da8c8 : am_mk rJx35411_checkForComodification_da8c8 := ⟨tw_1460, tw_28, by decide, by decide +kernel, by decide +kernel, by decide +kernel⟩
set_option maxRecDepth 100000 in
theorem prJx35411_checkForComodification_da8c8 : am_par rJx35411_checkForComodification_da8c8 0 := by unfold am_par; decide +kernel
set_option maxRecDepth 100000 in
theorem mm_java_util_ArrayList_Itr_31 : am_mV "java/util/ArrayList$Itr" 31 rJx35411_checkForComodification_da8c8 "java/util/ArrayList$Itr" 0 := ⟨mkJx35411_checkForComodification_da8c8, rfl, prJx35411_checkForComodification_da8c8, rfl, tw_1457, tw_1458, tw_1459, tw_28⟩
set_option maxRecDepth 100000 in
theorem ff_java_util_ArrayList_Itr_37 : am_F "java/util/ArrayList$Itr" 37 7 1 := ⟨RJx4a65c, TJx4a65c, 3, rfl, by decide, tw_1334⟩
set_option maxRecDepth 100000 in
theorem mkJ7_copyOf_6403c : am_mk rJ7_copyOf_6403c := ⟨tw_1409, tw_27, by decide, by decide +kernel, by decide +kernel, by decide +kernel⟩
set_option maxRecDepth 100000 in
theorem prJ7_copyOf_6403c : am_par rJ7_copyOf_6403c 3 := by unfold am_par; decide +kernel
set_option maxRecDepth 100000 in
theorem mm_java_util_Arrays_300 : am_mS "java/util/Arrays" 300 rJ7_copyOf_6403c 3 := ⟨mkJ7_copyOf_6403c, prJ7_copyOf_6403c, tw_1407, tw_1408⟩
