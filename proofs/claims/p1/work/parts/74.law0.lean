def A_L_law_192 (K23 : Nat → Nat → Nat → Int32 → Mm → Nat → Nat → Prop) (Cc Zz : Nat) (L : Nat) (xs : Nat → Int32) (M : Mm) (a1 : Nat) (a2 : Nat) (a3 : Nat) (i4 : Int32) (cc zz : Nat) : Prop := vp_in (i4 + 1) L ∧ vp_in (i4 + 2) L ∧ vp_in (i4 + 3) L ∧ ∃ dc_12 ds_12 : Nat, (cc + dc_12 ≤ Cc ∧ zz + ds_12 ≤ Zz) ∧ T_L_point dc_12 ds_12 M a1 (xs (i4 + 1).toNatClampNeg) (xs (i4 + 2).toNatClampNeg) (xs (i4 + 3).toNatClampNeg) a3 (fun r_10 M_11 => vp_in (i4 + 1) L ∧ vp_in (i4 + 2) L ∧ vp_in (i4 + 3) L ∧ ∃ dc_15 ds_15 : Nat, ((cc + dc_12) + dc_15 ≤ Cc ∧ (zz + ds_12) + ds_15 ≤ Zz) ∧ kM M_11 a2 = (9, 13) ∧ T_X9_point dc_15 ds_15 M_11 a2 (xs (i4 + 1).toNatClampNeg) (xs (i4 + 2).toNatClampNeg) (xs (i4 + 3).toNatClampNeg) (fun r_13 M_14 => (((cc + dc_12) + dc_15) ≤ Cc ∧ ((zz + ds_12) + ds_15) ≤ Zz) ∧ kM M_14 a2 = (9, 13) ∧ T_X9_thrown M_14 a2 (fun r_16 => (r_16 = r_10 → (¬ r_10 = 0 → K23 a1 a2 a3 (i4 + 5) M_14 ((cc + dc_12) + dc_15) ((zz + ds_12) + ds_15)) ∧ (r_10 = 0 → ∃ n_17 : Nat, kM M_14 a3 = (110, n_17) ∧ vp_in 0 n_17 ∧ ((lg_cmp (lM M_14 a3 (0 : Int32).toNatClampNeg) r_13.toInt64) = 0 → K23 a1 a2 a3 (i4 + 5) M_14 ((cc + dc_12) + dc_15) ((zz + ds_12) + ds_15)) ∧ (¬ (lg_cmp (lM M_14 a3 (0 : Int32).toNatClampNeg) r_13.toInt64) = 0 → False))) ∧ (¬ r_16 = r_10 → False)))) (fun _ _ => False)
def A_L_law_272 (K23 : Nat → Nat → Nat → Int32 → Mm → Nat → Nat → Prop) (Cc Zz : Nat) (L : Nat) (xs : Nat → Int32) (M : Mm) (a1 : Nat) (a2 : Nat) (a3 : Nat) (i4 : Int32) (cc zz : Nat) : Prop := vp_in (i4 + 1) L ∧ vp_in (i4 + 2) L ∧ vp_in (i4 + 3) L ∧ vp_in (i4 + 4) L ∧ ∃ dc_20 ds_20 : Nat, (cc + dc_20 ≤ Cc ∧ zz + ds_20 ≤ Zz) ∧ T_L_move dc_20 ds_20 M a1 (xs (i4 + 1).toNatClampNeg) (xs (i4 + 2).toNatClampNeg) (xs (i4 + 3).toNatClampNeg) (xs (i4 + 4).toNatClampNeg) a3 (fun r_18 M_19 => vp_in (i4 + 1) L ∧ vp_in (i4 + 2) L ∧ vp_in (i4 + 3) L ∧ vp_in (i4 + 4) L ∧ ∃ dc_23 ds_23 : Nat, ((cc + dc_20) + dc_23 ≤ Cc ∧ (zz + ds_20) + ds_23 ≤ Zz) ∧ kM M_19 a2 = (9, 13) ∧ T_X9_move dc_23 ds_23 M_19 a2 (xs (i4 + 1).toNatClampNeg) (xs (i4 + 2).toNatClampNeg) (xs (i4 + 3).toNatClampNeg) (xs (i4 + 4).toNatClampNeg) (fun r_21 M_22 => (((cc + dc_20) + dc_23) ≤ Cc ∧ ((zz + ds_20) + ds_23) ≤ Zz) ∧ kM M_22 a2 = (9, 13) ∧ T_X9_thrown M_22 a2 (fun r_24 => (r_24 = r_18 → (¬ r_18 = 0 → K23 a1 a2 a3 (i4 + 5) M_22 ((cc + dc_20) + dc_23) ((zz + ds_20) + ds_23)) ∧ (r_18 = 0 → ∃ n_25 : Nat, kM M_22 a3 = (110, n_25) ∧ vp_in 0 n_25 ∧ ((lg_cmp (lM M_22 a3 (0 : Int32).toNatClampNeg) r_21.toInt64) = 0 → K23 a1 a2 a3 (i4 + 5) M_22 ((cc + dc_20) + dc_23) ((zz + ds_20) + ds_23)) ∧ (¬ (lg_cmp (lM M_22 a3 (0 : Int32).toNatClampNeg) r_21.toInt64) = 0 → False))) ∧ (¬ r_24 = r_18 → False)))) (fun _ _ => False)
def A_L_law_364 (K23 : Nat → Nat → Nat → Int32 → Mm → Nat → Nat → Prop) (Cc Zz : Nat) (L : Nat) (xs : Nat → Int32) (M : Mm) (a1 : Nat) (a2 : Nat) (a3 : Nat) (i4 : Int32) (cc zz : Nat) : Prop := vp_in (i4 + 1) L ∧ vp_in (i4 + 2) L ∧ vp_in (i4 + 3) L ∧ vp_in (i4 + 4) L ∧ ∃ dc_28 ds_28 : Nat, (cc + dc_28 ≤ Cc ∧ zz + ds_28 ≤ Zz) ∧ T_L_face dc_28 ds_28 M a1 (xs (i4 + 1).toNatClampNeg) (xs (i4 + 2).toNatClampNeg) (xs (i4 + 3).toNatClampNeg) (xs (i4 + 4).toNatClampNeg) a3 (fun r_26 M_27 => vp_in (i4 + 1) L ∧ vp_in (i4 + 2) L ∧ vp_in (i4 + 3) L ∧ vp_in (i4 + 4) L ∧ ∃ dc_31 ds_31 : Nat, ((cc + dc_28) + dc_31 ≤ Cc ∧ (zz + ds_28) + ds_31 ≤ Zz) ∧ kM M_27 a2 = (9, 13) ∧ T_X9_face dc_31 ds_31 M_27 a2 (xs (i4 + 1).toNatClampNeg) (xs (i4 + 2).toNatClampNeg) (xs (i4 + 3).toNatClampNeg) (xs (i4 + 4).toNatClampNeg) (fun r_29 M_30 => (((cc + dc_28) + dc_31) ≤ Cc ∧ ((zz + ds_28) + ds_31) ≤ Zz) ∧ kM M_30 a2 = (9, 13) ∧ T_X9_thrown M_30 a2 (fun r_32 => (r_32 = r_26 → (¬ r_26 = 0 → K23 a1 a2 a3 (i4 + 5) M_30 ((cc + dc_28) + dc_31) ((zz + ds_28) + ds_31)) ∧ (r_26 = 0 → ∃ n_33 : Nat, kM M_30 a3 = (110, n_33) ∧ vp_in 0 n_33 ∧ ((lg_cmp (lM M_30 a3 (0 : Int32).toNatClampNeg) r_29.toInt64) = 0 → K23 a1 a2 a3 (i4 + 5) M_30 ((cc + dc_28) + dc_31) ((zz + ds_28) + ds_31)) ∧ (¬ (lg_cmp (lM M_30 a3 (0 : Int32).toNatClampNeg) r_29.toInt64) = 0 → False))) ∧ (¬ r_32 = r_26 → False)))) (fun _ _ => False)
def A_L_law_456 (K23 : Nat → Nat → Nat → Int32 → Mm → Nat → Nat → Prop) (Cc Zz : Nat) (L : Nat) (xs : Nat → Int32) (M : Mm) (a1 : Nat) (a2 : Nat) (a3 : Nat) (i4 : Int32) (cc zz : Nat) : Prop := vp_in (i4 + 1) L ∧ ∃ dc_36 ds_36 : Nat, (cc + dc_36 ≤ Cc ∧ zz + ds_36 ≤ Zz) ∧ T_L_dropFace dc_36 ds_36 M a1 (xs (i4 + 1).toNatClampNeg) a3 (fun r_34 M_35 => vp_in (i4 + 1) L ∧ ((cc + dc_36) ≤ Cc ∧ (zz + ds_36) ≤ Zz) ∧ kM M_35 a2 = (9, 13) ∧ T_X9_dropFace M_35 a2 (xs (i4 + 1).toNatClampNeg) (fun r_37 M_38 => ((cc + dc_36) ≤ Cc ∧ (zz + ds_36) ≤ Zz) ∧ kM M_38 a2 = (9, 13) ∧ T_X9_thrown M_38 a2 (fun r_39 => (r_39 = r_34 → (¬ r_34 = 0 → K23 a1 a2 a3 (i4 + 5) M_38 (cc + dc_36) (zz + ds_36)) ∧ (r_34 = 0 → ∃ n_40 : Nat, kM M_38 a3 = (110, n_40) ∧ vp_in 0 n_40 ∧ ((lg_cmp (lM M_38 a3 (0 : Int32).toNatClampNeg) r_37.toInt64) = 0 → K23 a1 a2 a3 (i4 + 5) M_38 (cc + dc_36) (zz + ds_36)) ∧ (¬ (lg_cmp (lM M_38 a3 (0 : Int32).toNatClampNeg) r_37.toInt64) = 0 → False))) ∧ (¬ r_39 = r_34 → False)))) (fun _ _ => False)
def A_L_law_512 (K23 : Nat → Nat → Nat → Int32 → Mm → Nat → Nat → Prop) (Cc Zz : Nat) (L : Nat) (xs : Nat → Int32) (M : Mm) (a1 : Nat) (a2 : Nat) (a3 : Nat) (i4 : Int32) (cc zz : Nat) : Prop := vp_in (i4 + 1) L ∧ ∃ dc_43 ds_43 : Nat, (cc + dc_43 ≤ Cc ∧ zz + ds_43 ≤ Zz) ∧ T_L_dropPoint dc_43 ds_43 M a1 (xs (i4 + 1).toNatClampNeg) a3 (fun r_41 M_42 => vp_in (i4 + 1) L ∧ ((cc + dc_43) ≤ Cc ∧ (zz + ds_43) ≤ Zz) ∧ kM M_42 a2 = (9, 13) ∧ T_X9_dropPoint M_42 a2 (xs (i4 + 1).toNatClampNeg) (fun r_44 M_45 => ((cc + dc_43) ≤ Cc ∧ (zz + ds_43) ≤ Zz) ∧ kM M_45 a2 = (9, 13) ∧ T_X9_thrown M_45 a2 (fun r_46 => (r_46 = r_41 → (¬ r_41 = 0 → K23 a1 a2 a3 (i4 + 5) M_45 (cc + dc_43) (zz + ds_43)) ∧ (r_41 = 0 → ∃ n_47 : Nat, kM M_45 a3 = (110, n_47) ∧ vp_in 0 n_47 ∧ ((lg_cmp (lM M_45 a3 (0 : Int32).toNatClampNeg) r_44.toInt64) = 0 → K23 a1 a2 a3 (i4 + 5) M_45 (cc + dc_43) (zz + ds_43)) ∧ (¬ (lg_cmp (lM M_45 a3 (0 : Int32).toNatClampNeg) r_44.toInt64) = 0 → False))) ∧ (¬ r_46 = r_41 → False)))) (fun _ _ => False)
def A_L_law_568 (K23 : Nat → Nat → Nat → Int32 → Mm → Nat → Nat → Prop) (Cc Zz : Nat) (L : Nat) (xs : Nat → Int32) (M : Mm) (a1 : Nat) (a2 : Nat) (a3 : Nat) (i4 : Int32) (cc zz : Nat) : Prop := vp_in (i4 + 1) L ∧ vp_in (i4 + 2) L ∧ vp_in (i4 + 3) L ∧ vp_in (i4 + 4) L ∧ ∃ dc_50 ds_50 : Nat, (cc + dc_50 ≤ Cc ∧ zz + ds_50 ≤ Zz) ∧ T_L_box dc_50 ds_50 M a1 (xs (i4 + 1).toNatClampNeg) (xs (i4 + 2).toNatClampNeg) (xs (i4 + 3).toNatClampNeg) (xs (i4 + 4).toNatClampNeg) a3 (fun r_48 M_49 => vp_in (i4 + 1) L ∧ vp_in (i4 + 2) L ∧ vp_in (i4 + 3) L ∧ vp_in (i4 + 4) L ∧ ∃ dc_53 ds_53 : Nat, ((cc + dc_50) + dc_53 ≤ Cc ∧ (zz + ds_50) + ds_53 ≤ Zz) ∧ kM M_49 a2 = (9, 13) ∧ T_X9_box dc_53 ds_53 M_49 a2 (xs (i4 + 1).toNatClampNeg) (xs (i4 + 2).toNatClampNeg) (xs (i4 + 3).toNatClampNeg) (xs (i4 + 4).toNatClampNeg) (fun r_51 M_52 => (((cc + dc_50) + dc_53) ≤ Cc ∧ ((zz + ds_50) + ds_53) ≤ Zz) ∧ kM M_52 a2 = (9, 13) ∧ T_X9_thrown M_52 a2 (fun r_54 => (r_54 = r_48 → (¬ r_48 = 0 → K23 a1 a2 a3 (i4 + 5) M_52 ((cc + dc_50) + dc_53) ((zz + ds_50) + ds_53)) ∧ (r_48 = 0 → ∃ n_55 : Nat, kM M_52 a3 = (110, n_55) ∧ vp_in 0 n_55 ∧ ((lg_cmp (lM M_52 a3 (0 : Int32).toNatClampNeg) r_51.toInt64) = 0 → K23 a1 a2 a3 (i4 + 5) M_52 ((cc + dc_50) + dc_53) ((zz + ds_50) + ds_53)) ∧ (¬ (lg_cmp (lM M_52 a3 (0 : Int32).toNatClampNeg) r_51.toInt64) = 0 → False))) ∧ (¬ r_54 = r_48 → False)))) (fun _ _ => False)
def A_L_law_660 (K23 : Nat → Nat → Nat → Int32 → Mm → Nat → Nat → Prop) (Cc Zz : Nat) (L : Nat) (xs : Nat → Int32) (M : Mm) (a1 : Nat) (a2 : Nat) (a3 : Nat) (i4 : Int32) (cc zz : Nat) : Prop := vp_in (i4 + 1) L ∧ vp_in (i4 + 2) L ∧ ∃ dc_58 ds_58 : Nat, (cc + dc_58 ≤ Cc ∧ zz + ds_58 ≤ Zz) ∧ T_L_split dc_58 ds_58 M a1 (xs (i4 + 1).toNatClampNeg) (xs (i4 + 2).toNatClampNeg) a3 (fun r_56 M_57 => vp_in (i4 + 1) L ∧ vp_in (i4 + 2) L ∧ ((cc + dc_58) ≤ Cc ∧ (zz + ds_58) ≤ Zz) ∧ kM M_57 a2 = (9, 13) ∧ T_X9_split M_57 a2 (xs (i4 + 1).toNatClampNeg) (xs (i4 + 2).toNatClampNeg) (fun r_59 M_60 => ((cc + dc_58) ≤ Cc ∧ (zz + ds_58) ≤ Zz) ∧ kM M_60 a2 = (9, 13) ∧ T_X9_thrown M_60 a2 (fun r_61 => (r_61 = r_56 → (¬ r_56 = 0 → K23 a1 a2 a3 (i4 + 5) M_60 (cc + dc_58) (zz + ds_58)) ∧ (r_56 = 0 → ∃ n_62 : Nat, kM M_60 a3 = (110, n_62) ∧ vp_in 0 n_62 ∧ ((lg_cmp (lM M_60 a3 (0 : Int32).toNatClampNeg) r_59.toInt64) = 0 → K23 a1 a2 a3 (i4 + 5) M_60 (cc + dc_58) (zz + ds_58)) ∧ (¬ (lg_cmp (lM M_60 a3 (0 : Int32).toNatClampNeg) r_59.toInt64) = 0 → False))) ∧ (¬ r_61 = r_56 → False)))) (fun _ _ => False)
def A_L_law_728 (K23 : Nat → Nat → Nat → Int32 → Mm → Nat → Nat → Prop) (Cc Zz : Nat) (L : Nat) (xs : Nat → Int32) (M : Mm) (a1 : Nat) (a2 : Nat) (a3 : Nat) (i4 : Int32) (cc zz : Nat) : Prop := vp_in (i4 + 1) L ∧ vp_in (i4 + 2) L ∧ vp_in (i4 + 3) L ∧ ∃ dc_65 ds_65 : Nat, (cc + dc_65 ≤ Cc ∧ zz + ds_65 ≤ Zz) ∧ T_L_cut dc_65 ds_65 M a1 (xs (i4 + 1).toNatClampNeg) (xs (i4 + 2).toNatClampNeg) (xs (i4 + 3).toNatClampNeg) a3 (fun r_63 M_64 => vp_in (i4 + 1) L ∧ vp_in (i4 + 2) L ∧ vp_in (i4 + 3) L ∧ ((cc + dc_65) ≤ Cc ∧ (zz + ds_65) ≤ Zz) ∧ kM M_64 a2 = (9, 13) ∧ T_X9_cut M_64 a2 (xs (i4 + 1).toNatClampNeg) (xs (i4 + 2).toNatClampNeg) (xs (i4 + 3).toNatClampNeg) (fun r_66 M_67 => ((cc + dc_65) ≤ Cc ∧ (zz + ds_65) ≤ Zz) ∧ kM M_67 a2 = (9, 13) ∧ T_X9_thrown M_67 a2 (fun r_68 => (r_68 = r_63 → (¬ r_63 = 0 → K23 a1 a2 a3 (i4 + 5) M_67 (cc + dc_65) (zz + ds_65)) ∧ (r_63 = 0 → ∃ n_69 : Nat, kM M_67 a3 = (110, n_69) ∧ vp_in 0 n_69 ∧ ((lg_cmp (lM M_67 a3 (0 : Int32).toNatClampNeg) r_66.toInt64) = 0 → K23 a1 a2 a3 (i4 + 5) M_67 (cc + dc_65) (zz + ds_65)) ∧ (¬ (lg_cmp (lM M_67 a3 (0 : Int32).toNatClampNeg) r_66.toInt64) = 0 → False))) ∧ (¬ r_68 = r_63 → False)))) (fun _ _ => False)
def A_L_law_808 (K23 : Nat → Nat → Nat → Int32 → Mm → Nat → Nat → Prop) (Cc Zz : Nat) (L : Nat) (xs : Nat → Int32) (M : Mm) (a1 : Nat) (a2 : Nat) (a3 : Nat) (i4 : Int32) (cc zz : Nat) : Prop := vp_in (i4 + 1) L ∧ vp_in (i4 + 2) L ∧ ∃ dc_72 ds_72 : Nat, (cc + dc_72 ≤ Cc ∧ zz + ds_72 ≤ Zz) ∧ T_L_join dc_72 ds_72 M a1 (xs (i4 + 1).toNatClampNeg) (xs (i4 + 2).toNatClampNeg) a3 (fun r_70 M_71 => vp_in (i4 + 1) L ∧ vp_in (i4 + 2) L ∧ ((cc + dc_72) ≤ Cc ∧ (zz + ds_72) ≤ Zz) ∧ kM M_71 a2 = (9, 13) ∧ T_X9_join_ M_71 a2 (xs (i4 + 1).toNatClampNeg) (xs (i4 + 2).toNatClampNeg) (fun r_73 M_74 => ((cc + dc_72) ≤ Cc ∧ (zz + ds_72) ≤ Zz) ∧ kM M_74 a2 = (9, 13) ∧ T_X9_thrown M_74 a2 (fun r_75 => (r_75 = r_70 → (¬ r_70 = 0 → K23 a1 a2 a3 (i4 + 5) M_74 (cc + dc_72) (zz + ds_72)) ∧ (r_70 = 0 → ∃ n_76 : Nat, kM M_74 a3 = (110, n_76) ∧ vp_in 0 n_76 ∧ ((lg_cmp (lM M_74 a3 (0 : Int32).toNatClampNeg) r_73.toInt64) = 0 → K23 a1 a2 a3 (i4 + 5) M_74 (cc + dc_72) (zz + ds_72)) ∧ (¬ (lg_cmp (lM M_74 a3 (0 : Int32).toNatClampNeg) r_73.toInt64) = 0 → False))) ∧ (¬ r_75 = r_70 → False)))) (fun _ _ => False)
def A_L_law_876 (K23 : Nat → Nat → Nat → Int32 → Mm → Nat → Nat → Prop) (Cc Zz : Nat) (L : Nat) (xs : Nat → Int32) (M : Mm) (a1 : Nat) (a2 : Nat) (a3 : Nat) (i4 : Int32) (cc zz : Nat) : Prop := vp_in (i4 + 1) L ∧ vp_in (i4 + 2) L ∧ ∃ dc_79 ds_79 : Nat, (cc + dc_79 ≤ Cc ∧ zz + ds_79 ≤ Zz) ∧ T_L_collapse dc_79 ds_79 M a1 (xs (i4 + 1).toNatClampNeg) (xs (i4 + 2).toNatClampNeg) a3 (fun r_77 M_78 => vp_in (i4 + 1) L ∧ vp_in (i4 + 2) L ∧ ((cc + dc_79) ≤ Cc ∧ (zz + ds_79) ≤ Zz) ∧ kM M_78 a2 = (9, 13) ∧ T_X9_collapse M_78 a2 (xs (i4 + 1).toNatClampNeg) (xs (i4 + 2).toNatClampNeg) (fun r_80 M_81 => ((cc + dc_79) ≤ Cc ∧ (zz + ds_79) ≤ Zz) ∧ kM M_81 a2 = (9, 13) ∧ T_X9_thrown M_81 a2 (fun r_82 => (r_82 = r_77 → (¬ r_77 = 0 → K23 a1 a2 a3 (i4 + 5) M_81 (cc + dc_79) (zz + ds_79)) ∧ (r_77 = 0 → ∃ n_83 : Nat, kM M_81 a3 = (110, n_83) ∧ vp_in 0 n_83 ∧ ((lg_cmp (lM M_81 a3 (0 : Int32).toNatClampNeg) r_80.toInt64) = 0 → K23 a1 a2 a3 (i4 + 5) M_81 (cc + dc_79) (zz + ds_79)) ∧ (¬ (lg_cmp (lM M_81 a3 (0 : Int32).toNatClampNeg) r_80.toInt64) = 0 → False))) ∧ (¬ r_82 = r_77 → False)))) (fun _ _ => False)
def A_L_law_944 (K23 : Nat → Nat → Nat → Int32 → Mm → Nat → Nat → Prop) (Cc Zz : Nat) (L : Nat) (xs : Nat → Int32) (M : Mm) (a1 : Nat) (a2 : Nat) (a3 : Nat) (i4 : Int32) (cc zz : Nat) : Prop := vp_in (i4 + 1) L ∧ vp_in (i4 + 2) L ∧ ∃ dc_86 ds_86 : Nat, (cc + dc_86 ≤ Cc ∧ zz + ds_86 ≤ Zz) ∧ T_L_flip dc_86 ds_86 M a1 (xs (i4 + 1).toNatClampNeg) (xs (i4 + 2).toNatClampNeg) a3 (fun r_84 M_85 => vp_in (i4 + 1) L ∧ vp_in (i4 + 2) L ∧ ((cc + dc_86) ≤ Cc ∧ (zz + ds_86) ≤ Zz) ∧ kM M_85 a2 = (9, 13) ∧ T_X9_flip M_85 a2 (xs (i4 + 1).toNatClampNeg) (xs (i4 + 2).toNatClampNeg) (fun r_87 M_88 => ((cc + dc_86) ≤ Cc ∧ (zz + ds_86) ≤ Zz) ∧ kM M_88 a2 = (9, 13) ∧ T_X9_thrown M_88 a2 (fun r_89 => (r_89 = r_84 → (¬ r_84 = 0 → K23 a1 a2 a3 (i4 + 5) M_88 (cc + dc_86) (zz + ds_86)) ∧ (r_84 = 0 → ∃ n_90 : Nat, kM M_88 a3 = (110, n_90) ∧ vp_in 0 n_90 ∧ ((lg_cmp (lM M_88 a3 (0 : Int32).toNatClampNeg) r_87.toInt64) = 0 → K23 a1 a2 a3 (i4 + 5) M_88 (cc + dc_86) (zz + ds_86)) ∧ (¬ (lg_cmp (lM M_88 a3 (0 : Int32).toNatClampNeg) r_87.toInt64) = 0 → False))) ∧ (¬ r_89 = r_84 → False)))) (fun _ _ => False)
def A_L_law_1012 (K23 : Nat → Nat → Nat → Int32 → Mm → Nat → Nat → Prop) (Cc Zz : Nat) (L : Nat) (xs : Nat → Int32) (M : Mm) (a1 : Nat) (a2 : Nat) (a3 : Nat) (i4 : Int32) (cc zz : Nat) : Prop := vp_in (i4 + 1) L ∧ vp_in (i4 + 2) L ∧ vp_in (i4 + 3) L ∧ vp_in (i4 + 4) L ∧ ∃ dc_93 ds_93 : Nat, (cc + dc_93 ≤ Cc ∧ zz + ds_93 ≤ Zz) ∧ T_L_draw dc_93 ds_93 M a1 (xs (i4 + 1).toNatClampNeg) (xs (i4 + 2).toNatClampNeg) (xs (i4 + 3).toNatClampNeg) (xs (i4 + 4).toNatClampNeg) a3 (fun r_91 M_92 => vp_in (i4 + 1) L ∧ vp_in (i4 + 2) L ∧ vp_in (i4 + 3) L ∧ vp_in (i4 + 4) L ∧ ∃ dc_96 ds_96 : Nat, ((cc + dc_93) + dc_96 ≤ Cc ∧ (zz + ds_93) + ds_96 ≤ Zz) ∧ kM M_92 a2 = (9, 13) ∧ T_X9_draw dc_96 ds_96 M_92 a2 (xs (i4 + 1).toNatClampNeg) (xs (i4 + 2).toNatClampNeg) (xs (i4 + 3).toNatClampNeg) (xs (i4 + 4).toNatClampNeg) (fun r_94 M_95 => (((cc + dc_93) + dc_96) ≤ Cc ∧ ((zz + ds_93) + ds_96) ≤ Zz) ∧ kM M_95 a2 = (9, 13) ∧ T_X9_thrown M_95 a2 (fun r_97 => (r_97 = r_91 → (¬ r_91 = 0 → K23 a1 a2 a3 (i4 + 5) M_95 ((cc + dc_93) + dc_96) ((zz + ds_93) + ds_96)) ∧ (r_91 = 0 → ∃ n_98 : Nat, kM M_95 a3 = (110, n_98) ∧ vp_in 0 n_98 ∧ ((lg_cmp (lM M_95 a3 (0 : Int32).toNatClampNeg) r_94.toInt64) = 0 → K23 a1 a2 a3 (i4 + 5) M_95 ((cc + dc_93) + dc_96) ((zz + ds_93) + ds_96)) ∧ (¬ (lg_cmp (lM M_95 a3 (0 : Int32).toNatClampNeg) r_94.toInt64) = 0 → False))) ∧ (¬ r_97 = r_91 → False)))) (fun _ _ => False)
def A_L_law_1104 (K23 : Nat → Nat → Nat → Int32 → Mm → Nat → Nat → Prop) (Cc Zz : Nat) (L : Nat) (xs : Nat → Int32) (M : Mm) (a1 : Nat) (a2 : Nat) (a3 : Nat) (i4 : Int32) (cc zz : Nat) : Prop := vp_in (i4 + 1) L ∧ vp_in (i4 + 2) L ∧ ∃ dc_101 ds_101 : Nat, (cc + dc_101 ≤ Cc ∧ zz + ds_101 ≤ Zz) ∧ T_L_fill dc_101 ds_101 M a1 (xs (i4 + 1).toNatClampNeg) (xs (i4 + 2).toNatClampNeg) a3 (fun r_99 M_100 => vp_in (i4 + 1) L ∧ vp_in (i4 + 2) L ∧ ((cc + dc_101) ≤ Cc ∧ (zz + ds_101) ≤ Zz) ∧ kM M_100 a2 = (9, 13) ∧ T_X9_fill M_100 a2 (xs (i4 + 1).toNatClampNeg) (xs (i4 + 2).toNatClampNeg) (fun r_102 M_103 => ((cc + dc_101) ≤ Cc ∧ (zz + ds_101) ≤ Zz) ∧ kM M_103 a2 = (9, 13) ∧ T_X9_thrown M_103 a2 (fun r_104 => (r_104 = r_99 → (¬ r_99 = 0 → K23 a1 a2 a3 (i4 + 5) M_103 (cc + dc_101) (zz + ds_101)) ∧ (r_99 = 0 → ∃ n_105 : Nat, kM M_103 a3 = (110, n_105) ∧ vp_in 0 n_105 ∧ ((lg_cmp (lM M_103 a3 (0 : Int32).toNatClampNeg) r_102.toInt64) = 0 → K23 a1 a2 a3 (i4 + 5) M_103 (cc + dc_101) (zz + ds_101)) ∧ (¬ (lg_cmp (lM M_103 a3 (0 : Int32).toNatClampNeg) r_102.toInt64) = 0 → False))) ∧ (¬ r_104 = r_99 → False)))) (fun _ _ => False)
def A_L_law_1172 (K23 : Nat → Nat → Nat → Int32 → Mm → Nat → Nat → Prop) (Cc Zz : Nat) (L : Nat) (xs : Nat → Int32) (M : Mm) (a1 : Nat) (a2 : Nat) (a3 : Nat) (i4 : Int32) (cc zz : Nat) : Prop := ∃ dc_108 ds_108 : Nat, (cc + dc_108 ≤ Cc ∧ zz + ds_108 ≤ Zz) ∧ T_L_quarters dc_108 ds_108 M a1 a3 (fun r_106 M_107 => ∃ dc_111 ds_111 : Nat, ((cc + dc_108) + dc_111 ≤ Cc ∧ (zz + ds_108) + ds_111 ≤ Zz) ∧ kM M_107 a2 = (9, 13) ∧ T_X9_quarters dc_111 ds_111 M_107 a2 (fun r_109 M_110 => (((cc + dc_108) + dc_111) ≤ Cc ∧ ((zz + ds_108) + ds_111) ≤ Zz) ∧ kM M_110 a2 = (9, 13) ∧ T_X9_thrown M_110 a2 (fun r_112 => (r_112 = r_106 → (¬ r_106 = 0 → K23 a1 a2 a3 (i4 + 5) M_110 ((cc + dc_108) + dc_111) ((zz + ds_108) + ds_111)) ∧ (r_106 = 0 → ∃ n_113 : Nat, kM M_110 a3 = (110, n_113) ∧ vp_in 0 n_113 ∧ ((lg_cmp (lM M_110 a3 (0 : Int32).toNatClampNeg) r_109.toInt64) = 0 → K23 a1 a2 a3 (i4 + 5) M_110 ((cc + dc_108) + dc_111) ((zz + ds_108) + ds_111)) ∧ (¬ (lg_cmp (lM M_110 a3 (0 : Int32).toNatClampNeg) r_109.toInt64) = 0 → False))) ∧ (¬ r_112 = r_106 → False)))) (fun _ _ => False)
def A_L_law_1216 (K23 : Nat → Nat → Nat → Int32 → Mm → Nat → Nat → Prop) (Cc Zz : Nat) (L : Nat) (xs : Nat → Int32) (M : Mm) (a1 : Nat) (a2 : Nat) (a3 : Nat) (i4 : Int32) (cc zz : Nat) : Prop := (cc ≤ Cc ∧ zz ≤ Zz) ∧ kM M a1 = (8, 8) ∧ T_X8_smooth M a1 (fun r_114 M_115 => ∃ dc_118 ds_118 : Nat, (cc + dc_118 ≤ Cc ∧ zz + ds_118 ≤ Zz) ∧ kM M_115 a2 = (9, 13) ∧ T_X9_smooth dc_118 ds_118 M_115 a2 (fun r_116 M_117 => (r_114 = r_116 → K23 a1 a2 a3 (i4 + 5) M_117 (cc + dc_118) (zz + ds_118)) ∧ (¬ r_114 = r_116 → False)))
def A_L_law_1229 (K23 : Nat → Nat → Nat → Int32 → Mm → Nat → Nat → Prop) (Cc Zz : Nat) (L : Nat) (xs : Nat → Int32) (M : Mm) (a1 : Nat) (a2 : Nat) (a3 : Nat) (i4 : Int32) (cc zz : Nat) : Prop := (cc ≤ Cc ∧ zz ≤ Zz) ∧ kM M a1 = (8, 8) ∧ T_X8_turn M a1 (fun r_119 M_120 => (cc ≤ Cc ∧ zz ≤ Zz) ∧ kM M_120 a2 = (9, 13) ∧ T_X9_turn M_120 a2 (fun r_121 M_122 => (r_119 = r_121 → K23 a1 a2 a3 (i4 + 5) M_122 cc zz) ∧ (¬ r_119 = r_121 → False)))
def A_L_law_1242 (K23 : Nat → Nat → Nat → Int32 → Mm → Nat → Nat → Prop) (Cc Zz : Nat) (L : Nat) (xs : Nat → Int32) (M : Mm) (a1 : Nat) (a2 : Nat) (a3 : Nat) (i4 : Int32) (cc zz : Nat) : Prop := (cc ≤ Cc ∧ zz ≤ Zz) ∧ kM M a1 = (8, 8) ∧ T_X8_points M a1 (fun r_123 => (cc ≤ Cc ∧ zz ≤ Zz) ∧ kM M a2 = (9, 13) ∧ T_X9_points M a2 (fun r_124 M_125 => (r_123 = r_124 → K23 a1 a2 a3 (i4 + 5) M_125 cc zz) ∧ (¬ r_123 = r_124 → False)))
def A_L_law_1255 (K23 : Nat → Nat → Nat → Int32 → Mm → Nat → Nat → Prop) (Cc Zz : Nat) (L : Nat) (xs : Nat → Int32) (M : Mm) (a1 : Nat) (a2 : Nat) (a3 : Nat) (i4 : Int32) (cc zz : Nat) : Prop := (cc ≤ Cc ∧ zz ≤ Zz) ∧ kM M a1 = (8, 8) ∧ T_X8_edges M a1 (fun r_126 => (cc ≤ Cc ∧ zz ≤ Zz) ∧ kM M a2 = (9, 13) ∧ T_X9_edges M a2 (fun r_127 M_128 => (r_126 = r_127 → K23 a1 a2 a3 (i4 + 5) M_128 cc zz) ∧ (¬ r_126 = r_127 → False)))
def A_L_law_1268 (K23 : Nat → Nat → Nat → Int32 → Mm → Nat → Nat → Prop) (Cc Zz : Nat) (L : Nat) (xs : Nat → Int32) (M : Mm) (a1 : Nat) (a2 : Nat) (a3 : Nat) (i4 : Int32) (cc zz : Nat) : Prop := (cc ≤ Cc ∧ zz ≤ Zz) ∧ kM M a1 = (8, 8) ∧ T_X8_faces M a1 (fun r_129 => (cc ≤ Cc ∧ zz ≤ Zz) ∧ kM M a2 = (9, 13) ∧ T_X9_faces M a2 (fun r_130 M_131 => (r_129 = r_130 → K23 a1 a2 a3 (i4 + 5) M_131 cc zz) ∧ (¬ r_129 = r_130 → False)))
def A_L_law_1281 (K23 : Nat → Nat → Nat → Int32 → Mm → Nat → Nat → Prop) (Cc Zz : Nat) (L : Nat) (xs : Nat → Int32) (M : Mm) (a1 : Nat) (a2 : Nat) (a3 : Nat) (i4 : Int32) (cc zz : Nat) : Prop := (cc ≤ Cc ∧ zz ≤ Zz) ∧ kM M a1 = (8, 8) ∧ T_X8_holes M a1 (fun r_132 M_133 => ∃ dc_136 ds_136 : Nat, (cc + dc_136 ≤ Cc ∧ zz + ds_136 ≤ Zz) ∧ kM M_133 a2 = (9, 13) ∧ T_X9_holes dc_136 ds_136 M_133 a2 (fun r_134 M_135 => (r_132 = r_134 → K23 a1 a2 a3 (i4 + 5) M_135 (cc + dc_136) (zz + ds_136)) ∧ (¬ r_132 = r_134 → False)))
def A_L_law_1294 (K23 : Nat → Nat → Nat → Int32 → Mm → Nat → Nat → Prop) (Cc Zz : Nat) (L : Nat) (xs : Nat → Int32) (M : Mm) (a1 : Nat) (a2 : Nat) (a3 : Nat) (i4 : Int32) (cc zz : Nat) : Prop := (cc ≤ Cc ∧ zz ≤ Zz) ∧ kM M a1 = (8, 8) ∧ T_X8_shells M a1 (fun r_137 M_138 => ∃ dc_141 ds_141 : Nat, (cc + dc_141 ≤ Cc ∧ zz + ds_141 ≤ Zz) ∧ kM M_138 a2 = (9, 13) ∧ T_X9_shells dc_141 ds_141 M_138 a2 (fun r_139 M_140 => (r_137 = r_139 → K23 a1 a2 a3 (i4 + 5) M_140 (cc + dc_141) (zz + ds_141)) ∧ (¬ r_137 = r_139 → False)))
def A_L_law_1307 (K23 : Nat → Nat → Nat → Int32 → Mm → Nat → Nat → Prop) (Cc Zz : Nat) (L : Nat) (xs : Nat → Int32) (M : Mm) (a1 : Nat) (a2 : Nat) (a3 : Nat) (i4 : Int32) (cc zz : Nat) : Prop := vp_in (i4 + 1) L ∧ vp_in (i4 + 2) L ∧ ∃ dc_144 ds_144 : Nat, (cc + dc_144 ≤ Cc ∧ zz + ds_144 ≤ Zz) ∧ T_L_at dc_144 ds_144 M a1 (xs (i4 + 1).toNatClampNeg) (xs (i4 + 2).toNatClampNeg) a3 (fun r_142 M_143 => vp_in (i4 + 1) L ∧ vp_in (i4 + 2) L ∧ ((cc + dc_144) ≤ Cc ∧ (zz + ds_144) ≤ Zz) ∧ kM M_143 a2 = (9, 13) ∧ T_X9_at M_143 a2 (xs (i4 + 1).toNatClampNeg) (xs (i4 + 2).toNatClampNeg) (fun r_145 M_146 => ((cc + dc_144) ≤ Cc ∧ (zz + ds_144) ≤ Zz) ∧ kM M_146 a2 = (9, 13) ∧ T_X9_thrown M_146 a2 (fun r_147 => (r_147 = r_142 → (¬ r_142 = 0 → K23 a1 a2 a3 (i4 + 5) M_146 (cc + dc_144) (zz + ds_144)) ∧ (r_142 = 0 → ∃ n_148 : Nat, kM M_146 a3 = (110, n_148) ∧ vp_in 0 n_148 ∧ ((lg_cmp (lM M_146 a3 (0 : Int32).toNatClampNeg) r_145.toInt64) = 0 → K23 a1 a2 a3 (i4 + 5) M_146 (cc + dc_144) (zz + ds_144)) ∧ (¬ (lg_cmp (lM M_146 a3 (0 : Int32).toNatClampNeg) r_145.toInt64) = 0 → False))) ∧ (¬ r_147 = r_142 → False)))) (fun _ _ => False)
def A_L_law_1375 (K23 : Nat → Nat → Nat → Int32 → Mm → Nat → Nat → Prop) (Cc Zz : Nat) (L : Nat) (xs : Nat → Int32) (M : Mm) (a1 : Nat) (a2 : Nat) (a3 : Nat) (i4 : Int32) (cc zz : Nat) : Prop := vp_in (i4 + 1) L ∧ ∃ dc_151 ds_151 : Nat, (cc + dc_151 ≤ Cc ∧ zz + ds_151 ≤ Zz) ∧ T_L_size dc_151 ds_151 M a1 (xs (i4 + 1).toNatClampNeg) a3 (fun r_149 M_150 => vp_in (i4 + 1) L ∧ ((cc + dc_151) ≤ Cc ∧ (zz + ds_151) ≤ Zz) ∧ kM M_150 a2 = (9, 13) ∧ T_X9_size_ M_150 a2 (xs (i4 + 1).toNatClampNeg) (fun r_152 M_153 => ((cc + dc_151) ≤ Cc ∧ (zz + ds_151) ≤ Zz) ∧ kM M_153 a2 = (9, 13) ∧ T_X9_thrown M_153 a2 (fun r_154 => (r_154 = r_149 → (¬ r_149 = 0 → K23 a1 a2 a3 (i4 + 5) M_153 (cc + dc_151) (zz + ds_151)) ∧ (r_149 = 0 → ∃ n_155 : Nat, kM M_153 a3 = (110, n_155) ∧ vp_in 0 n_155 ∧ ((lg_cmp (lM M_153 a3 (0 : Int32).toNatClampNeg) r_152.toInt64) = 0 → K23 a1 a2 a3 (i4 + 5) M_153 (cc + dc_151) (zz + ds_151)) ∧ (¬ (lg_cmp (lM M_153 a3 (0 : Int32).toNatClampNeg) r_152.toInt64) = 0 → False))) ∧ (¬ r_154 = r_149 → False)))) (fun _ _ => False)
def A_L_law_1431 (K23 : Nat → Nat → Nat → Int32 → Mm → Nat → Nat → Prop) (Cc Zz : Nat) (L : Nat) (xs : Nat → Int32) (M : Mm) (a1 : Nat) (a2 : Nat) (a3 : Nat) (i4 : Int32) (cc zz : Nat) : Prop := vp_in (i4 + 1) L ∧ vp_in (i4 + 2) L ∧ ∃ dc_158 ds_158 : Nat, (cc + dc_158 ≤ Cc ∧ zz + ds_158 ≤ Zz) ∧ T_L_corner dc_158 ds_158 M a1 (xs (i4 + 1).toNatClampNeg) (xs (i4 + 2).toNatClampNeg) a3 (fun r_156 M_157 => vp_in (i4 + 1) L ∧ vp_in (i4 + 2) L ∧ ((cc + dc_158) ≤ Cc ∧ (zz + ds_158) ≤ Zz) ∧ kM M_157 a2 = (9, 13) ∧ T_X9_corner M_157 a2 (xs (i4 + 1).toNatClampNeg) (xs (i4 + 2).toNatClampNeg) (fun r_159 M_160 => ((cc + dc_158) ≤ Cc ∧ (zz + ds_158) ≤ Zz) ∧ kM M_160 a2 = (9, 13) ∧ T_X9_thrown M_160 a2 (fun r_161 => (r_161 = r_156 → (¬ r_156 = 0 → K23 a1 a2 a3 (i4 + 5) M_160 (cc + dc_158) (zz + ds_158)) ∧ (r_156 = 0 → ∃ n_162 : Nat, kM M_160 a3 = (110, n_162) ∧ vp_in 0 n_162 ∧ ((lg_cmp (lM M_160 a3 (0 : Int32).toNatClampNeg) r_159.toInt64) = 0 → K23 a1 a2 a3 (i4 + 5) M_160 (cc + dc_158) (zz + ds_158)) ∧ (¬ (lg_cmp (lM M_160 a3 (0 : Int32).toNatClampNeg) r_159.toInt64) = 0 → False))) ∧ (¬ r_161 = r_156 → False)))) (fun _ _ => False)
def A_L_law_1499 (K23 : Nat → Nat → Nat → Int32 → Mm → Nat → Nat → Prop) (Cc Zz : Nat) (L : Nat) (xs : Nat → Int32) (M : Mm) (a1 : Nat) (a2 : Nat) (a3 : Nat) (i4 : Int32) (cc zz : Nat) : Prop := vp_in (i4 + 1) L ∧ vp_in (i4 + 2) L ∧ ∃ dc_165 ds_165 : Nat, (cc + dc_165 ≤ Cc ∧ zz + ds_165 ≤ Zz) ∧ T_L_faceOf dc_165 ds_165 M a1 (xs (i4 + 1).toNatClampNeg) (xs (i4 + 2).toNatClampNeg) a3 (fun r_163 M_164 => vp_in (i4 + 1) L ∧ vp_in (i4 + 2) L ∧ ((cc + dc_165) ≤ Cc ∧ (zz + ds_165) ≤ Zz) ∧ kM M_164 a2 = (9, 13) ∧ T_X9_faceOf M_164 a2 (xs (i4 + 1).toNatClampNeg) (xs (i4 + 2).toNatClampNeg) (fun r_166 M_167 => ((cc + dc_165) ≤ Cc ∧ (zz + ds_165) ≤ Zz) ∧ kM M_167 a2 = (9, 13) ∧ T_X9_thrown M_167 a2 (fun r_168 => (r_168 = r_163 → (¬ r_163 = 0 → K23 a1 a2 a3 (i4 + 5) M_167 (cc + dc_165) (zz + ds_165)) ∧ (r_163 = 0 → ∃ n_169 : Nat, kM M_167 a3 = (110, n_169) ∧ vp_in 0 n_169 ∧ ((lg_cmp (lM M_167 a3 (0 : Int32).toNatClampNeg) r_166.toInt64) = 0 → K23 a1 a2 a3 (i4 + 5) M_167 (cc + dc_165) (zz + ds_165)) ∧ (¬ (lg_cmp (lM M_167 a3 (0 : Int32).toNatClampNeg) r_166.toInt64) = 0 → False))) ∧ (¬ r_168 = r_163 → False)))) (fun _ _ => False)
def A_L_law_1567 (K23 : Nat → Nat → Nat → Int32 → Mm → Nat → Nat → Prop) (Cc Zz : Nat) (L : Nat) (xs : Nat → Int32) (M : Mm) (a1 : Nat) (a2 : Nat) (a3 : Nat) (i4 : Int32) (cc zz : Nat) : Prop := vp_in (i4 + 1) L ∧ vp_in (i4 + 2) L ∧ ∃ dc_172 ds_172 : Nat, (cc + dc_172 ≤ Cc ∧ zz + ds_172 ≤ Zz) ∧ T_L_hole dc_172 ds_172 M a1 (xs (i4 + 1).toNatClampNeg) (xs (i4 + 2).toNatClampNeg) a3 (fun r_170 M_171 => vp_in (i4 + 1) L ∧ vp_in (i4 + 2) L ∧ ((cc + dc_172) ≤ Cc ∧ (zz + ds_172) ≤ Zz) ∧ kM M_171 a2 = (9, 13) ∧ T_X9_hole M_171 a2 (xs (i4 + 1).toNatClampNeg) (xs (i4 + 2).toNatClampNeg) (fun r_173 M_174 => ((cc + dc_172) ≤ Cc ∧ (zz + ds_172) ≤ Zz) ∧ kM M_174 a2 = (9, 13) ∧ T_X9_thrown M_174 a2 (fun r_175 => (r_175 = r_170 → (¬ r_170 = 0 → K23 a1 a2 a3 (i4 + 5) M_174 (cc + dc_172) (zz + ds_172)) ∧ (r_170 = 0 → ∃ n_176 : Nat, kM M_174 a3 = (110, n_176) ∧ vp_in 0 n_176 ∧ ((lg_cmp (lM M_174 a3 (0 : Int32).toNatClampNeg) r_173.toInt64) = 0 → K23 a1 a2 a3 (i4 + 5) M_174 (cc + dc_172) (zz + ds_172)) ∧ (¬ (lg_cmp (lM M_174 a3 (0 : Int32).toNatClampNeg) r_173.toInt64) = 0 → False))) ∧ (¬ r_175 = r_170 → False)))) (fun _ _ => False)
def A_L_law_1635 (K23 : Nat → Nat → Nat → Int32 → Mm → Nat → Nat → Prop) (Cc Zz : Nat) (L : Nat) (xs : Nat → Int32) (M : Mm) (a1 : Nat) (a2 : Nat) (a3 : Nat) (i4 : Int32) (cc zz : Nat) : Prop := vp_in (i4 + 1) L ∧ vp_in (i4 + 2) L ∧ ∃ dc_179 ds_179 : Nat, (cc + dc_179 ≤ Cc ∧ zz + ds_179 ≤ Zz) ∧ T_L_around dc_179 ds_179 M a1 (xs (i4 + 1).toNatClampNeg) (xs (i4 + 2).toNatClampNeg) a3 (fun r_177 M_178 => vp_in (i4 + 1) L ∧ vp_in (i4 + 2) L ∧ ((cc + dc_179) ≤ Cc ∧ (zz + ds_179) ≤ Zz) ∧ kM M_178 a2 = (9, 13) ∧ T_X9_around M_178 a2 (xs (i4 + 1).toNatClampNeg) (xs (i4 + 2).toNatClampNeg) (fun r_180 M_181 => ((cc + dc_179) ≤ Cc ∧ (zz + ds_179) ≤ Zz) ∧ kM M_181 a2 = (9, 13) ∧ T_X9_thrown M_181 a2 (fun r_182 => (r_182 = r_177 → (¬ r_177 = 0 → K23 a1 a2 a3 (i4 + 5) M_181 (cc + dc_179) (zz + ds_179)) ∧ (r_177 = 0 → ∃ n_183 : Nat, kM M_181 a3 = (110, n_183) ∧ vp_in 0 n_183 ∧ ((lg_cmp (lM M_181 a3 (0 : Int32).toNatClampNeg) r_180.toInt64) = 0 → K23 a1 a2 a3 (i4 + 5) M_181 (cc + dc_179) (zz + ds_179)) ∧ (¬ (lg_cmp (lM M_181 a3 (0 : Int32).toNatClampNeg) r_180.toInt64) = 0 → False))) ∧ (¬ r_182 = r_177 → False)))) (fun _ _ => False)
def A_L_law_1703 (K23 : Nat → Nat → Nat → Int32 → Mm → Nat → Nat → Prop) (Cc Zz : Nat) (L : Nat) (xs : Nat → Int32) (M : Mm) (a1 : Nat) (a2 : Nat) (a3 : Nat) (i4 : Int32) (cc zz : Nat) : Prop := vp_in (i4 + 1) L ∧ vp_in (i4 + 2) L ∧ ∃ dc_186 ds_186 : Nat, (cc + dc_186 ≤ Cc ∧ zz + ds_186 ≤ Zz) ∧ T_L_normal dc_186 ds_186 M a1 (xs (i4 + 1).toNatClampNeg) (xs (i4 + 2).toNatClampNeg) a3 (fun r_184 M_185 => vp_in (i4 + 1) L ∧ vp_in (i4 + 2) L ∧ ((cc + dc_186) ≤ Cc ∧ (zz + ds_186) ≤ Zz) ∧ kM M_185 a2 = (9, 13) ∧ T_X9_normal M_185 a2 (xs (i4 + 1).toNatClampNeg) (xs (i4 + 2).toNatClampNeg) (fun r_187 M_188 => ((cc + dc_186) ≤ Cc ∧ (zz + ds_186) ≤ Zz) ∧ kM M_188 a2 = (9, 13) ∧ T_X9_thrown M_188 a2 (fun r_189 => (r_189 = r_184 → (¬ r_184 = 0 → K23 a1 a2 a3 (i4 + 5) M_188 (cc + dc_186) (zz + ds_186)) ∧ (r_184 = 0 → ∃ n_190 : Nat, kM M_188 a3 = (110, n_190) ∧ vp_in 0 n_190 ∧ ((lg_cmp (lM M_188 a3 (0 : Int32).toNatClampNeg) r_187.toInt64) = 0 → K23 a1 a2 a3 (i4 + 5) M_188 (cc + dc_186) (zz + ds_186)) ∧ (¬ (lg_cmp (lM M_188 a3 (0 : Int32).toNatClampNeg) r_187.toInt64) = 0 → False))) ∧ (¬ r_189 = r_184 → False)))) (fun _ _ => False)
def A_L_law_1771 (K23 : Nat → Nat → Nat → Int32 → Mm → Nat → Nat → Prop) (Cc Zz : Nat) (L : Nat) (xs : Nat → Int32) (M : Mm) (a1 : Nat) (a2 : Nat) (a3 : Nat) (i4 : Int32) (cc zz : Nat) : Prop := (cc ≤ Cc ∧ zz ≤ Zz) ∧ kM M a1 = (8, 8) ∧ T_X8_volume M a1 (fun r_191 => (cc ≤ Cc ∧ zz ≤ Zz) ∧ kM M a2 = (9, 13) ∧ T_X9_volume M a2 (fun r_192 M_193 => ((lg_cmp r_191 r_192) = 0 → K23 a1 a2 a3 (i4 + 5) M_193 cc zz) ∧ (¬ (lg_cmp r_191 r_192) = 0 → False)))
def A_L_law_1785 (K23 : Nat → Nat → Nat → Int32 → Mm → Nat → Nat → Prop) (Cc Zz : Nat) (L : Nat) (xs : Nat → Int32) (M : Mm) (a1 : Nat) (a2 : Nat) (a3 : Nat) (i4 : Int32) (cc zz : Nat) : Prop := (cc ≤ Cc ∧ zz ≤ Zz) ∧ kM M a1 = (8, 8) ∧ T_X8_meanEdge M a1 (fun r_194 => (cc ≤ Cc ∧ zz ≤ Zz) ∧ kM M a2 = (9, 13) ∧ T_X9_meanEdge M a2 (fun r_195 M_196 => ((Op.cmpValue (FP.dcmp r_194 r_195) .l) = 0 → K23 a1 a2 a3 (i4 + 5) M_196 cc zz) ∧ (¬ (Op.cmpValue (FP.dcmp r_194 r_195) .l) = 0 → ((Op.cmpValue (FP.dcmp r_194 r_194) .l) = 0 → False) ∧ (¬ (Op.cmpValue (FP.dcmp r_194 r_194) .l) = 0 → (¬ (Op.cmpValue (FP.dcmp r_195 r_195) .l) = 0 → K23 a1 a2 a3 (i4 + 5) M_196 cc zz) ∧ ((Op.cmpValue (FP.dcmp r_195 r_195) .l) = 0 → False)))))
def A_L_law_1826 (K23 : Nat → Nat → Nat → Int32 → Mm → Nat → Nat → Prop) (Cc Zz : Nat) (L : Nat) (xs : Nat → Int32) (M : Mm) (a1 : Nat) (a2 : Nat) (a3 : Nat) (i4 : Int32) (cc zz : Nat) : Prop := vp_in (i4 + 1) L ∧ vp_in (i4 + 2) L ∧ ∃ dc_199 ds_199 : Nat, (cc + dc_199 ≤ Cc ∧ zz + ds_199 ≤ Zz) ∧ T_L_steps dc_199 ds_199 M a1 (xs (i4 + 1).toNatClampNeg) (xs (i4 + 2).toNatClampNeg) a3 (fun r_197 M_198 => vp_in (i4 + 1) L ∧ vp_in (i4 + 2) L ∧ ∃ dc_202 ds_202 : Nat, ((cc + dc_199) + dc_202 ≤ Cc ∧ (zz + ds_199) + ds_202 ≤ Zz) ∧ kM M_198 a2 = (9, 13) ∧ T_X9_steps dc_202 ds_202 M_198 a2 (xs (i4 + 1).toNatClampNeg) (xs (i4 + 2).toNatClampNeg) (fun r_200 M_201 => (((cc + dc_199) + dc_202) ≤ Cc ∧ ((zz + ds_199) + ds_202) ≤ Zz) ∧ kM M_201 a2 = (9, 13) ∧ T_X9_thrown M_201 a2 (fun r_203 => (r_203 = r_197 → (¬ r_197 = 0 → K23 a1 a2 a3 (i4 + 5) M_201 ((cc + dc_199) + dc_202) ((zz + ds_199) + ds_202)) ∧ (r_197 = 0 → ∃ n_204 : Nat, kM M_201 a3 = (110, n_204) ∧ vp_in 0 n_204 ∧ ((lg_cmp (lM M_201 a3 (0 : Int32).toNatClampNeg) r_200.toInt64) = 0 → K23 a1 a2 a3 (i4 + 5) M_201 ((cc + dc_199) + dc_202) ((zz + ds_199) + ds_202)) ∧ (¬ (lg_cmp (lM M_201 a3 (0 : Int32).toNatClampNeg) r_200.toInt64) = 0 → False))) ∧ (¬ r_203 = r_197 → False)))) (fun _ _ => False)
def A_L_law_1894 (K23 : Nat → Nat → Nat → Int32 → Mm → Nat → Nat → Prop) (Cc Zz : Nat) (L : Nat) (xs : Nat → Int32) (M : Mm) (a1 : Nat) (a2 : Nat) (a3 : Nat) (i4 : Int32) (cc zz : Nat) : Prop := vp_in (i4 + 1) L ∧ ∃ dc_207 ds_207 : Nat, (cc + dc_207 ≤ Cc ∧ zz + ds_207 ≤ Zz) ∧ T_L_may dc_207 ds_207 M a1 (xs (i4 + 1).toNatClampNeg) a3 (fun r_205 M_206 => vp_in (i4 + 1) L ∧ ((cc + dc_207) ≤ Cc ∧ (zz + ds_207) ≤ Zz) ∧ kM M_206 a2 = (9, 13) ∧ T_X9_may M_206 a2 (xs (i4 + 1).toNatClampNeg) (fun r_208 M_209 => ((cc + dc_207) ≤ Cc ∧ (zz + ds_207) ≤ Zz) ∧ kM M_209 a2 = (9, 13) ∧ T_X9_thrown M_209 a2 (fun r_210 => (r_210 = r_205 → (¬ r_205 = 0 → K23 a1 a2 a3 (i4 + 5) M_209 (cc + dc_207) (zz + ds_207)) ∧ (r_205 = 0 → ∃ n_211 : Nat, kM M_209 a3 = (110, n_211) ∧ vp_in 0 n_211 ∧ ((lg_cmp (lM M_209 a3 (0 : Int32).toNatClampNeg) r_208.toInt64) = 0 → K23 a1 a2 a3 (i4 + 5) M_209 (cc + dc_207) (zz + ds_207)) ∧ (¬ (lg_cmp (lM M_209 a3 (0 : Int32).toNatClampNeg) r_208.toInt64) = 0 → False))) ∧ (¬ r_210 = r_205 → False)))) (fun _ _ => False)
def A_L_law_1950 (K23 : Nat → Nat → Nat → Int32 → Mm → Nat → Nat → Prop) (Cc Zz : Nat) (L : Nat) (xs : Nat → Int32) (M : Mm) (a1 : Nat) (a2 : Nat) (a3 : Nat) (i4 : Int32) (cc zz : Nat) : Prop := vp_in (i4 + 1) L ∧ vp_in (i4 + 2) L ∧ ∃ dc_214 ds_214 : Nat, (cc + dc_214 ≤ Cc ∧ zz + ds_214 ≤ Zz) ∧ T_L_volumeWith dc_214 ds_214 M a1 (xs (i4 + 1).toNatClampNeg) (xs (i4 + 2).toNatClampNeg) a3 (fun r_212 M_213 => vp_in (i4 + 1) L ∧ vp_in (i4 + 2) L ∧ ((cc + dc_214) ≤ Cc ∧ (zz + ds_214) ≤ Zz) ∧ kM M_213 a2 = (9, 13) ∧ T_X9_volumeWith M_213 a2 (xs (i4 + 1).toNatClampNeg) (xs (i4 + 2).toNatClampNeg) (fun r_215 M_216 => ((cc + dc_214) ≤ Cc ∧ (zz + ds_214) ≤ Zz) ∧ kM M_216 a2 = (9, 13) ∧ T_X9_thrown M_216 a2 (fun r_217 => (r_217 = r_212 → (¬ r_212 = 0 → K23 a1 a2 a3 (i4 + 5) M_216 (cc + dc_214) (zz + ds_214)) ∧ (r_212 = 0 → ∃ n_218 : Nat, kM M_216 a3 = (110, n_218) ∧ vp_in 0 n_218 ∧ ((lg_cmp (lM M_216 a3 (0 : Int32).toNatClampNeg) r_215) = 0 → K23 a1 a2 a3 (i4 + 5) M_216 (cc + dc_214) (zz + ds_214)) ∧ (¬ (lg_cmp (lM M_216 a3 (0 : Int32).toNatClampNeg) r_215) = 0 → False))) ∧ (¬ r_217 = r_212 → False)))) (fun _ _ => False)
def A_L_law_2017 (K23 : Nat → Nat → Nat → Int32 → Mm → Nat → Nat → Prop) (Cc Zz : Nat) (L : Nat) (xs : Nat → Int32) (M : Mm) (a1 : Nat) (a2 : Nat) (a3 : Nat) (i4 : Int32) (cc zz : Nat) : Prop := vp_in (i4 + 1) L ∧ ∃ dc_221 ds_221 : Nat, (cc + dc_221 ≤ Cc ∧ zz + ds_221 ≤ Zz) ∧ T_L_holesWithout dc_221 ds_221 M a1 (xs (i4 + 1).toNatClampNeg) a3 (fun r_219 M_220 => vp_in (i4 + 1) L ∧ ∃ dc_224 ds_224 : Nat, ((cc + dc_221) + dc_224 ≤ Cc ∧ (zz + ds_221) + ds_224 ≤ Zz) ∧ kM M_220 a2 = (9, 13) ∧ T_X9_holesWithout dc_224 ds_224 M_220 a2 (xs (i4 + 1).toNatClampNeg) (fun r_222 M_223 => (((cc + dc_221) + dc_224) ≤ Cc ∧ ((zz + ds_221) + ds_224) ≤ Zz) ∧ kM M_223 a2 = (9, 13) ∧ T_X9_thrown M_223 a2 (fun r_225 => (r_225 = r_219 → (¬ r_219 = 0 → K23 a1 a2 a3 (i4 + 5) M_223 ((cc + dc_221) + dc_224) ((zz + ds_221) + ds_224)) ∧ (r_219 = 0 → ∃ n_226 : Nat, kM M_223 a3 = (110, n_226) ∧ vp_in 0 n_226 ∧ ((lg_cmp (lM M_223 a3 (0 : Int32).toNatClampNeg) r_222.toInt64) = 0 → K23 a1 a2 a3 (i4 + 5) M_223 ((cc + dc_221) + dc_224) ((zz + ds_221) + ds_224)) ∧ (¬ (lg_cmp (lM M_223 a3 (0 : Int32).toNatClampNeg) r_222.toInt64) = 0 → False))) ∧ (¬ r_225 = r_219 → False)))) (fun _ _ => False)
def A_L_law_2073 (K23 : Nat → Nat → Nat → Int32 → Mm → Nat → Nat → Prop) (Cc Zz : Nat) (L : Nat) (xs : Nat → Int32) (M : Mm) (a1 : Nat) (a2 : Nat) (a3 : Nat) (i4 : Int32) (cc zz : Nat) : Prop := (cc ≤ Cc ∧ zz ≤ Zz) ∧ kM M a1 = (8, 8) ∧ T_X8_digest M a1 (fun r_227 M_228 => ∃ dc_231 ds_231 : Nat, (cc + dc_231 ≤ Cc ∧ zz + ds_231 ≤ Zz) ∧ kM M_228 a2 = (9, 13) ∧ T_X9_digest dc_231 ds_231 M_228 a2 (fun r_229 M_230 => ((lg_cmp r_227 r_229) = 0 → K23 a1 a2 a3 (i4 + 5) M_230 (cc + dc_231) (zz + ds_231)) ∧ (¬ (lg_cmp r_227 r_229) = 0 → False)))
def S_L_law_23 (K23 : Nat → Nat → Nat → Int32 → Mm → Nat → Nat → Prop) (Cc Zz : Nat) (L : Nat) (xs : Nat → Int32) (M : Mm) (a1 : Nat) (a2 : Nat) (a3 : Nat) (i4 : Int32) (cc zz : Nat) : Prop := (((nI L) - 5) < i4 → cc ≤ 600002 ∧ zz ≤ 7302232) ∧ (¬ ((nI L) - 5) < i4 → vp_in i4 L ∧ (((xs i4.toNatClampNeg) &&& 63) = 0 → A_L_law_192 K23 Cc Zz L xs M a1 a2 a3 i4 cc zz) ∧ (((xs i4.toNatClampNeg) &&& 63) = 1 → A_L_law_272 K23 Cc Zz L xs M a1 a2 a3 i4 cc zz) ∧ (((xs i4.toNatClampNeg) &&& 63) = 2 → A_L_law_364 K23 Cc Zz L xs M a1 a2 a3 i4 cc zz) ∧ (((xs i4.toNatClampNeg) &&& 63) = 3 → A_L_law_456 K23 Cc Zz L xs M a1 a2 a3 i4 cc zz) ∧ (((xs i4.toNatClampNeg) &&& 63) = 4 → A_L_law_512 K23 Cc Zz L xs M a1 a2 a3 i4 cc zz) ∧ (((xs i4.toNatClampNeg) &&& 63) = 5 → A_L_law_568 K23 Cc Zz L xs M a1 a2 a3 i4 cc zz) ∧ (((xs i4.toNatClampNeg) &&& 63) = 6 → A_L_law_660 K23 Cc Zz L xs M a1 a2 a3 i4 cc zz) ∧ (((xs i4.toNatClampNeg) &&& 63) = 7 → A_L_law_728 K23 Cc Zz L xs M a1 a2 a3 i4 cc zz) ∧ (((xs i4.toNatClampNeg) &&& 63) = 8 → A_L_law_808 K23 Cc Zz L xs M a1 a2 a3 i4 cc zz) ∧ (((xs i4.toNatClampNeg) &&& 63) = 9 → A_L_law_876 K23 Cc Zz L xs M a1 a2 a3 i4 cc zz) ∧ (((xs i4.toNatClampNeg) &&& 63) = 10 → A_L_law_944 K23 Cc Zz L xs M a1 a2 a3 i4 cc zz) ∧ (((xs i4.toNatClampNeg) &&& 63) = 11 → A_L_law_1012 K23 Cc Zz L xs M a1 a2 a3 i4 cc zz) ∧ (((xs i4.toNatClampNeg) &&& 63) = 12 → A_L_law_1104 K23 Cc Zz L xs M a1 a2 a3 i4 cc zz) ∧ (((xs i4.toNatClampNeg) &&& 63) = 13 → A_L_law_1172 K23 Cc Zz L xs M a1 a2 a3 i4 cc zz) ∧ (((xs i4.toNatClampNeg) &&& 63) = 14 → A_L_law_1216 K23 Cc Zz L xs M a1 a2 a3 i4 cc zz) ∧ (((xs i4.toNatClampNeg) &&& 63) = 15 → A_L_law_1229 K23 Cc Zz L xs M a1 a2 a3 i4 cc zz) ∧ (((xs i4.toNatClampNeg) &&& 63) = 16 → A_L_law_1242 K23 Cc Zz L xs M a1 a2 a3 i4 cc zz) ∧ (((xs i4.toNatClampNeg) &&& 63) = 17 → A_L_law_1255 K23 Cc Zz L xs M a1 a2 a3 i4 cc zz) ∧ (((xs i4.toNatClampNeg) &&& 63) = 18 → A_L_law_1268 K23 Cc Zz L xs M a1 a2 a3 i4 cc zz) ∧ (((xs i4.toNatClampNeg) &&& 63) = 19 → A_L_law_1281 K23 Cc Zz L xs M a1 a2 a3 i4 cc zz) ∧ (((xs i4.toNatClampNeg) &&& 63) = 20 → A_L_law_1294 K23 Cc Zz L xs M a1 a2 a3 i4 cc zz) ∧ (((xs i4.toNatClampNeg) &&& 63) = 21 → A_L_law_1307 K23 Cc Zz L xs M a1 a2 a3 i4 cc zz) ∧ (((xs i4.toNatClampNeg) &&& 63) = 22 → A_L_law_1375 K23 Cc Zz L xs M a1 a2 a3 i4 cc zz) ∧ (((xs i4.toNatClampNeg) &&& 63) = 23 → A_L_law_1431 K23 Cc Zz L xs M a1 a2 a3 i4 cc zz) ∧ (((xs i4.toNatClampNeg) &&& 63) = 24 → A_L_law_1499 K23 Cc Zz L xs M a1 a2 a3 i4 cc zz) ∧ (((xs i4.toNatClampNeg) &&& 63) = 25 → A_L_law_1567 K23 Cc Zz L xs M a1 a2 a3 i4 cc zz) ∧ (((xs i4.toNatClampNeg) &&& 63) = 26 → A_L_law_1635 K23 Cc Zz L xs M a1 a2 a3 i4 cc zz) ∧ (((xs i4.toNatClampNeg) &&& 63) = 27 → A_L_law_1703 K23 Cc Zz L xs M a1 a2 a3 i4 cc zz) ∧ (((xs i4.toNatClampNeg) &&& 63) = 28 → A_L_law_1771 K23 Cc Zz L xs M a1 a2 a3 i4 cc zz) ∧ (((xs i4.toNatClampNeg) &&& 63) = 29 → A_L_law_1785 K23 Cc Zz L xs M a1 a2 a3 i4 cc zz) ∧ (((xs i4.toNatClampNeg) &&& 63) = 30 → A_L_law_1826 K23 Cc Zz L xs M a1 a2 a3 i4 cc zz) ∧ (((xs i4.toNatClampNeg) &&& 63) = 31 → A_L_law_1894 K23 Cc Zz L xs M a1 a2 a3 i4 cc zz) ∧ (((xs i4.toNatClampNeg) &&& 63) = 32 → A_L_law_1950 K23 Cc Zz L xs M a1 a2 a3 i4 cc zz) ∧ (((xs i4.toNatClampNeg) &&& 63) = 33 → A_L_law_2017 K23 Cc Zz L xs M a1 a2 a3 i4 cc zz) ∧ (((xs i4.toNatClampNeg) &&& 63) = 34 → A_L_law_2073 K23 Cc Zz L xs M a1 a2 a3 i4 cc zz) ∧ (¬ ((xs i4.toNatClampNeg) &&& 63) = 0 ∧ ¬ ((xs i4.toNatClampNeg) &&& 63) = 1 ∧ ¬ ((xs i4.toNatClampNeg) &&& 63) = 2 ∧ ¬ ((xs i4.toNatClampNeg) &&& 63) = 3 ∧ ¬ ((xs i4.toNatClampNeg) &&& 63) = 4 ∧ ¬ ((xs i4.toNatClampNeg) &&& 63) = 5 ∧ ¬ ((xs i4.toNatClampNeg) &&& 63) = 6 ∧ ¬ ((xs i4.toNatClampNeg) &&& 63) = 7 ∧ ¬ ((xs i4.toNatClampNeg) &&& 63) = 8 ∧ ¬ ((xs i4.toNatClampNeg) &&& 63) = 9 ∧ ¬ ((xs i4.toNatClampNeg) &&& 63) = 10 ∧ ¬ ((xs i4.toNatClampNeg) &&& 63) = 11 ∧ ¬ ((xs i4.toNatClampNeg) &&& 63) = 12 ∧ ¬ ((xs i4.toNatClampNeg) &&& 63) = 13 ∧ ¬ ((xs i4.toNatClampNeg) &&& 63) = 14 ∧ ¬ ((xs i4.toNatClampNeg) &&& 63) = 15 ∧ ¬ ((xs i4.toNatClampNeg) &&& 63) = 16 ∧ ¬ ((xs i4.toNatClampNeg) &&& 63) = 17 ∧ ¬ ((xs i4.toNatClampNeg) &&& 63) = 18 ∧ ¬ ((xs i4.toNatClampNeg) &&& 63) = 19 ∧ ¬ ((xs i4.toNatClampNeg) &&& 63) = 20 ∧ ¬ ((xs i4.toNatClampNeg) &&& 63) = 21 ∧ ¬ ((xs i4.toNatClampNeg) &&& 63) = 22 ∧ ¬ ((xs i4.toNatClampNeg) &&& 63) = 23 ∧ ¬ ((xs i4.toNatClampNeg) &&& 63) = 24 ∧ ¬ ((xs i4.toNatClampNeg) &&& 63) = 25 ∧ ¬ ((xs i4.toNatClampNeg) &&& 63) = 26 ∧ ¬ ((xs i4.toNatClampNeg) &&& 63) = 27 ∧ ¬ ((xs i4.toNatClampNeg) &&& 63) = 28 ∧ ¬ ((xs i4.toNatClampNeg) &&& 63) = 29 ∧ ¬ ((xs i4.toNatClampNeg) &&& 63) = 30 ∧ ¬ ((xs i4.toNatClampNeg) &&& 63) = 31 ∧ ¬ ((xs i4.toNatClampNeg) &&& 63) = 32 ∧ ¬ ((xs i4.toNatClampNeg) &&& 63) = 33 ∧ ¬ ((xs i4.toNatClampNeg) &&& 63) = 34 → K23 a1 a2 a3 (i4 + 5) M cc zz))
def T_L_law (Cc Zz : Nat) (L : Nat) (xs : Nat → Int32) (M : Mm) : Prop := ∀ (K23 : Nat → Nat → Nat → Int32 → Mm → Nat → Nat → Prop), (∀ (a1 : Nat) (a2 : Nat) (a3 : Nat) (i4 : Int32) (M : Mm) (cc zz : Nat), S_L_law_23 K23 Cc Zz L xs M a1 a2 a3 i4 cc zz → K23 a1 a2 a3 i4 M cc zz) → 0 + 1 ≤ Cc ∧ 0 + 8 ≤ Zz ∧ ∀ q_1 : Nat, frs M q_1 → ∃ dc_4 ds_4 : Nat, ((0 + 1) + dc_4 ≤ Cc ∧ (0 + 8) + ds_4 ≤ Zz) ∧ T_X8_init dc_4 ds_4 (wN M q_1 8 8) q_1 (fun M_3 => ((0 + 1) + dc_4) + 1 ≤ Cc ∧ ((0 + 8) + ds_4) + 13 ≤ Zz ∧ ∀ q_5 : Nat, frs M_3 q_5 → ∃ dc_8 ds_8 : Nat, ((((0 + 1) + dc_4) + 1) + dc_8 ≤ Cc ∧ (((0 + 8) + ds_4) + 13) + ds_8 ≤ Zz) ∧ T_X9_init dc_8 ds_8 (wN M_3 q_5 9 13) q_5 (fun M_7 => ((((0 + 1) + dc_4) + 1) + dc_8) + 1 ≤ Cc ∧ ((((0 + 8) + ds_4) + 13) + ds_8) + 1 ≤ Zz ∧ ∀ q_9 : Nat, frs M_7 q_9 → K23 q_1 q_5 q_9 0 (wN M_7 q_9 110 1) (((((0 + 1) + dc_4) + 1) + dc_8) + 1) (((((0 + 8) + ds_4) + 13) + ds_8) + 1)))
set_option maxRecDepth 100000 in
set_option maxHeartbeats 8000000 in
theorem arm_L_law_192 {p : Program} {l : Launch} {e : Env} {s : State} {m : MethodId} {below : List Frame} {meth : Method} {c : Code} {D : va_G} {cA : Nat → ClassId} {lo scr L : Nat} {xs : Nat → Int32} (C : Cx p s m #[Value.ref scr] c cL_law 9 RL wsL_law D cA lo) (hl : l.stackTraces = false) (hX : va_X scr L xs s s.heap) (hbl : scr < s.heap.size ∧ lo = s.heap.size) (hr : meth.sig.returnType = ret) (hlk : meth.locks = false) (M : Mm) (a1 : Nat) (a2 : Nat) (a3 : Nat) (i4 : Int32) (cc zz : Nat) (h : A_L_law_192 (fun (a1 : Nat) (a2 : Nat) (a3 : Nat) (i4 : Int32) (M : Mm) (cc zz : Nat) => QW p l e room_1 s m #[Value.ref scr] below meth c (lw_Z below #[Value.ref scr] s) 9 D cA lo cc zz M 23 [(0, .ref scr), (1, .ref a1), (2, .ref a2), (3, .ref a3), (4, .int i4)] []) 600002 7302232 L xs M a1 a2 a3 i4 cc zz) : QW p l e room_1 s m #[Value.ref scr] below meth c (lw_Z below #[Value.ref scr] s) 9 D cA lo cc zz M 192 [(0, .ref scr), (1, .ref a1), (2, .ref a2), (3, .ref a3), (4, .int i4)] [] := by
  unfold A_L_law_192 at h
  refine q_aload_n C dL_law_192 rfl (j := 1) rfl ?_
  refine q_aload_n C dL_law_193 rfl (j := 0) rfl ?_
  refine q_iload C dL_law_194 (j := 4) rfl ?_
  refine q_iconst (v := 1) C dL_law_196 (by decide) ?_
  refine q_iadd C dL_law_197 ?_
  refine q_sld hX hbl C h.1 dL_law_198 ?_
  have h := h.2
  refine q_aload_n C dL_law_199 rfl (j := 0) rfl ?_
  refine q_iload C dL_law_200 (j := 4) rfl ?_
  refine q_iconst (v := 2) C dL_law_202 (by decide) ?_
  refine q_iadd C dL_law_203 ?_
  refine q_sld hX hbl C h.1 dL_law_204 ?_
  have h := h.2
  refine q_aload_n C dL_law_205 rfl (j := 0) rfl ?_
  refine q_iload C dL_law_206 (j := 4) rfl ?_
  refine q_iconst (v := 3) C dL_law_208 (by decide) ?_
  refine q_iadd C dL_law_209 ?_
  refine q_sld hX hbl C h.1 dL_law_210 ?_
  have h := h.2
  refine q_aload_n C dL_law_211 rfl (j := 3) rfl ?_
  obtain ⟨dc_12, ds_12, hcz, h⟩ := h
  refine q_xw (q_runSW (As := [.ref a1, .int (xs (i4 + 1).toNatClampNeg), .int (xs (i4 + 2).toNatClampNeg), .int (xs (i4 + 3).toNatClampNeg), .ref a3]) (st := []) C (c_L_point l hl D cA lo h) (vx_cwSW 5 C.2.2.2.2.1 gL_law_L_point rfl rfl rfl (by decide +kernel) ⟨Nat.le_of_ble_eq_true rfl, Nat.le_of_ble_eq_true rfl⟩) rfl rfl (Nat.le_of_ble_eq_true rfl) dL_law_212 hcz) (fun E M_x h => ?_) (fun r_10 M_11 h => ?_)
  · exact h.elim
  · refine q_istore (lv' := [(5, .int r_10), (0, .ref scr), (1, .ref a1), (2, .ref a2), (3, .ref a3), (4, .int i4)]) C dL_law_215 (by decide) rfl ?_
    refine q_aload_n C dL_law_217 rfl (j := 3) rfl ?_
    refine q_aload_n C dL_law_218 rfl (j := 1) rfl ?_
    refine q_iload C dL_law_219 (j := 5) rfl ?_
    refine q_iconst (v := 1) C dL_law_221 (by decide) ?_
    refine q_iadd C dL_law_222 ?_
    refine q_sld hX hbl C h.1 dL_law_223 ?_
    have h := h.2
    refine q_aload_n C dL_law_224 rfl (j := 1) rfl ?_
    refine q_iload C dL_law_225 (j := 5) rfl ?_
    refine q_iconst (v := 2) C dL_law_227 (by decide) ?_
    refine q_iadd C dL_law_228 ?_
    refine q_sld hX hbl C h.1 dL_law_229 ?_
    have h := h.2
    refine q_aload_n C dL_law_230 rfl (j := 1) rfl ?_
    refine q_iload C dL_law_231 (j := 5) rfl ?_
    refine q_iconst (v := 3) C dL_law_233 (by decide) ?_
    refine q_iadd C dL_law_234 ?_
    refine q_sld hX hbl C h.1 dL_law_235 ?_
    have h := h.2
    obtain ⟨dc_15, ds_15, hcz, h⟩ := h
    refine q_ci (q_runV (As := [.int (xs (i4 + 1).toNatClampNeg), .int (xs (i4 + 2).toNatClampNeg), .int (xs (i4 + 3).toNatClampNeg)]) (st := []) C (c_X9_point l D cA lo h.2) (cwV 3 C.2.2.2.2.1 gL_law_X9_point rfl rfl rfl (by decide +kernel) ⟨Nat.le_of_ble_eq_true rfl, Nat.le_of_ble_eq_true rfl⟩) h.1 (by decide) rfl rfl rfl (Nat.le_of_ble_eq_true rfl) dL_law_236 hcz) (fun r_13 M_14 h => ?_)
    refine q_istore (lv' := [(6, .int r_13), (5, .int r_10), (0, .ref scr), (1, .ref a1), (2, .ref a2), (3, .ref a3), (4, .int i4)]) C dL_law_239 (by decide) rfl ?_
    refine q_aload_n C dL_law_241 rfl (j := 4) rfl ?_
    have hcz := h.1
    have h := h.2
    refine q_ci (q_runV (As := []) (st := []) C (c_X9_thrown l D cA lo h.2) (cwV 0 C.2.2.2.2.1 gL_law_X9_thrown rfl rfl rfl (by decide +kernel) ⟨Nat.le_of_ble_eq_true rfl, Nat.le_of_ble_eq_true rfl⟩) h.1 (by decide) rfl rfl rfl (Nat.le_of_ble_eq_true rfl) dL_law_242 ⟨Nat.le_trans (Nat.le_of_eq (Nat.add_zero _)) hcz.1, Nat.le_trans (Nat.le_of_eq (Nat.add_zero _)) hcz.2⟩) (fun r_16 M_z h => ?_)
    refine q_mem h.1 ?_
    have h := h.2
    refine q_iload C dL_law_245 (j := 1) rfl ?_
    refine q_icmp_eq (tgt := 252) C dL_law_247 (by decide) (fun z => ?_) (fun z => ?_)
    · have h := h.1 z
      refine q_iload C dL_law_252 (j := 1) rfl ?_
      refine q_if_ne (tgt := 269) C dL_law_254 (by decide) (fun z => ?_) (fun z => ?_)
      · have h := h.1 z
        refine q_goto (tgt := 2087) C dL_law_269 (by decide) ?_
        refine q_iinc (v := (i4 + 5)) (lv' := [(4, .int (i4 + 5)), (6, .int r_13), (5, .int r_10), (0, .ref scr), (1, .ref a1), (2, .ref a2), (3, .ref a3)]) C dL_law_2087 (j := 6) rfl rfl (by decide) rfl ?_
        refine q_goto (tgt := 23) C dL_law_2090 (by decide) ?_
        exact q_sub [3, 4, 5, 6, 0] rfl h
      · have h := h.2 z
        refine q_aload_n C dL_law_257 rfl (j := 5) rfl ?_
        refine q_iconst (v := 0) C dL_law_258 (by decide) ?_
        obtain ⟨n_17, z1, z2, h⟩ := h
        refine q_lald C z1 z2 dL_law_259 ?_
        refine q_iload C dL_law_260 (j := 0) rfl ?_
        refine q_i2l C dL_law_262 ?_
        refine q_lcmp C dL_law_263 ?_
        refine q_if_eq (tgt := 269) C dL_law_264 (by decide) (fun z => ?_) (fun z => ?_)
        · have h := h.1 z
          refine q_goto (tgt := 2087) C dL_law_269 (by decide) ?_
          refine q_iinc (v := (i4 + 5)) (lv' := [(4, .int (i4 + 5)), (6, .int r_13), (5, .int r_10), (0, .ref scr), (1, .ref a1), (2, .ref a2), (3, .ref a3)]) C dL_law_2087 (j := 6) rfl rfl (by decide) rfl ?_
          refine q_goto (tgt := 23) C dL_law_2090 (by decide) ?_
          exact q_sub [3, 4, 5, 6, 0] rfl h
        · have h := h.2 z
          refine q_iconst (v := 0) C dL_law_267 (by decide) ?_
          exact h.elim
    · have h := h.2 z
      refine q_iconst (v := 0) C dL_law_250 (by decide) ?_
      exact h.elim
set_option maxRecDepth 100000 in
set_option maxHeartbeats 8000000 in
theorem arm_L_law_272 {p : Program} {l : Launch} {e : Env} {s : State} {m : MethodId} {below : List Frame} {meth : Method} {c : Code} {D : va_G} {cA : Nat → ClassId} {lo scr L : Nat} {xs : Nat → Int32} (C : Cx p s m #[Value.ref scr] c cL_law 9 RL wsL_law D cA lo) (hl : l.stackTraces = false) (hX : va_X scr L xs s s.heap) (hbl : scr < s.heap.size ∧ lo = s.heap.size) (hr : meth.sig.returnType = ret) (hlk : meth.locks = false) (M : Mm) (a1 : Nat) (a2 : Nat) (a3 : Nat) (i4 : Int32) (cc zz : Nat) (h : A_L_law_272 (fun (a1 : Nat) (a2 : Nat) (a3 : Nat) (i4 : Int32) (M : Mm) (cc zz : Nat) => QW p l e room_1 s m #[Value.ref scr] below meth c (lw_Z below #[Value.ref scr] s) 9 D cA lo cc zz M 23 [(0, .ref scr), (1, .ref a1), (2, .ref a2), (3, .ref a3), (4, .int i4)] []) 600002 7302232 L xs M a1 a2 a3 i4 cc zz) : QW p l e room_1 s m #[Value.ref scr] below meth c (lw_Z below #[Value.ref scr] s) 9 D cA lo cc zz M 272 [(0, .ref scr), (1, .ref a1), (2, .ref a2), (3, .ref a3), (4, .int i4)] [] := by
  unfold A_L_law_272 at h
  refine q_aload_n C dL_law_272 rfl (j := 1) rfl ?_
  refine q_aload_n C dL_law_273 rfl (j := 0) rfl ?_
  refine q_iload C dL_law_274 (j := 4) rfl ?_
  refine q_iconst (v := 1) C dL_law_276 (by decide) ?_
  refine q_iadd C dL_law_277 ?_
  refine q_sld hX hbl C h.1 dL_law_278 ?_
  have h := h.2
  refine q_aload_n C dL_law_279 rfl (j := 0) rfl ?_
  refine q_iload C dL_law_280 (j := 4) rfl ?_
  refine q_iconst (v := 2) C dL_law_282 (by decide) ?_
  refine q_iadd C dL_law_283 ?_
  refine q_sld hX hbl C h.1 dL_law_284 ?_
  have h := h.2
  refine q_aload_n C dL_law_285 rfl (j := 0) rfl ?_
  refine q_iload C dL_law_286 (j := 4) rfl ?_
  refine q_iconst (v := 3) C dL_law_288 (by decide) ?_
  refine q_iadd C dL_law_289 ?_
  refine q_sld hX hbl C h.1 dL_law_290 ?_
  have h := h.2
  refine q_aload_n C dL_law_291 rfl (j := 0) rfl ?_
  refine q_iload C dL_law_292 (j := 4) rfl ?_
  refine q_iconst (v := 4) C dL_law_294 (by decide) ?_
  refine q_iadd C dL_law_295 ?_
  refine q_sld hX hbl C h.1 dL_law_296 ?_
  have h := h.2
  refine q_aload_n C dL_law_297 rfl (j := 3) rfl ?_
  obtain ⟨dc_20, ds_20, hcz, h⟩ := h
  refine q_xw (q_runSW (As := [.ref a1, .int (xs (i4 + 1).toNatClampNeg), .int (xs (i4 + 2).toNatClampNeg), .int (xs (i4 + 3).toNatClampNeg), .int (xs (i4 + 4).toNatClampNeg), .ref a3]) (st := []) C (c_L_move l hl D cA lo h) (vx_cwSW 6 C.2.2.2.2.1 gL_law_L_move rfl rfl rfl (by decide +kernel) ⟨Nat.le_of_ble_eq_true rfl, Nat.le_of_ble_eq_true rfl⟩) rfl rfl (Nat.le_of_ble_eq_true rfl) dL_law_298 hcz) (fun E M_x h => ?_) (fun r_18 M_19 h => ?_)
  · exact h.elim
  · refine q_istore (lv' := [(5, .int r_18), (0, .ref scr), (1, .ref a1), (2, .ref a2), (3, .ref a3), (4, .int i4)]) C dL_law_301 (by decide) rfl ?_
    refine q_aload_n C dL_law_303 rfl (j := 3) rfl ?_
    refine q_aload_n C dL_law_304 rfl (j := 1) rfl ?_
    refine q_iload C dL_law_305 (j := 5) rfl ?_
    refine q_iconst (v := 1) C dL_law_307 (by decide) ?_
    refine q_iadd C dL_law_308 ?_
    refine q_sld hX hbl C h.1 dL_law_309 ?_
    have h := h.2
    refine q_aload_n C dL_law_310 rfl (j := 1) rfl ?_
    refine q_iload C dL_law_311 (j := 5) rfl ?_
    refine q_iconst (v := 2) C dL_law_313 (by decide) ?_
    refine q_iadd C dL_law_314 ?_
    refine q_sld hX hbl C h.1 dL_law_315 ?_
    have h := h.2
    refine q_aload_n C dL_law_316 rfl (j := 1) rfl ?_
    refine q_iload C dL_law_317 (j := 5) rfl ?_
    refine q_iconst (v := 3) C dL_law_319 (by decide) ?_
    refine q_iadd C dL_law_320 ?_
    refine q_sld hX hbl C h.1 dL_law_321 ?_
    have h := h.2
    refine q_aload_n C dL_law_322 rfl (j := 1) rfl ?_
    refine q_iload C dL_law_323 (j := 5) rfl ?_
    refine q_iconst (v := 4) C dL_law_325 (by decide) ?_
    refine q_iadd C dL_law_326 ?_
    refine q_sld hX hbl C h.1 dL_law_327 ?_
    have h := h.2
    obtain ⟨dc_23, ds_23, hcz, h⟩ := h
    refine q_ci (q_runV (As := [.int (xs (i4 + 1).toNatClampNeg), .int (xs (i4 + 2).toNatClampNeg), .int (xs (i4 + 3).toNatClampNeg), .int (xs (i4 + 4).toNatClampNeg)]) (st := []) C (c_X9_move l D cA lo h.2) (cwV 4 C.2.2.2.2.1 gL_law_X9_move rfl rfl rfl (by decide +kernel) ⟨Nat.le_of_ble_eq_true rfl, Nat.le_of_ble_eq_true rfl⟩) h.1 (by decide) rfl rfl rfl (Nat.le_of_ble_eq_true rfl) dL_law_328 hcz) (fun r_21 M_22 h => ?_)
    refine q_istore (lv' := [(6, .int r_21), (5, .int r_18), (0, .ref scr), (1, .ref a1), (2, .ref a2), (3, .ref a3), (4, .int i4)]) C dL_law_331 (by decide) rfl ?_
    refine q_aload_n C dL_law_333 rfl (j := 4) rfl ?_
    have hcz := h.1
    have h := h.2
    refine q_ci (q_runV (As := []) (st := []) C (c_X9_thrown l D cA lo h.2) (cwV 0 C.2.2.2.2.1 gL_law_X9_thrown rfl rfl rfl (by decide +kernel) ⟨Nat.le_of_ble_eq_true rfl, Nat.le_of_ble_eq_true rfl⟩) h.1 (by decide) rfl rfl rfl (Nat.le_of_ble_eq_true rfl) dL_law_334 ⟨Nat.le_trans (Nat.le_of_eq (Nat.add_zero _)) hcz.1, Nat.le_trans (Nat.le_of_eq (Nat.add_zero _)) hcz.2⟩) (fun r_24 M_z h => ?_)
    refine q_mem h.1 ?_
    have h := h.2
    refine q_iload C dL_law_337 (j := 1) rfl ?_
    refine q_icmp_eq (tgt := 344) C dL_law_339 (by decide) (fun z => ?_) (fun z => ?_)
    · have h := h.1 z
      refine q_iload C dL_law_344 (j := 1) rfl ?_
      refine q_if_ne (tgt := 361) C dL_law_346 (by decide) (fun z => ?_) (fun z => ?_)
      · have h := h.1 z
        refine q_goto (tgt := 2087) C dL_law_361 (by decide) ?_
        refine q_iinc (v := (i4 + 5)) (lv' := [(4, .int (i4 + 5)), (6, .int r_21), (5, .int r_18), (0, .ref scr), (1, .ref a1), (2, .ref a2), (3, .ref a3)]) C dL_law_2087 (j := 6) rfl rfl (by decide) rfl ?_
        refine q_goto (tgt := 23) C dL_law_2090 (by decide) ?_
        exact q_sub [3, 4, 5, 6, 0] rfl h
      · have h := h.2 z
        refine q_aload_n C dL_law_349 rfl (j := 5) rfl ?_
        refine q_iconst (v := 0) C dL_law_350 (by decide) ?_
        obtain ⟨n_25, z1, z2, h⟩ := h
        refine q_lald C z1 z2 dL_law_351 ?_
        refine q_iload C dL_law_352 (j := 0) rfl ?_
        refine q_i2l C dL_law_354 ?_
        refine q_lcmp C dL_law_355 ?_
        refine q_if_eq (tgt := 361) C dL_law_356 (by decide) (fun z => ?_) (fun z => ?_)
        · have h := h.1 z
          refine q_goto (tgt := 2087) C dL_law_361 (by decide) ?_
          refine q_iinc (v := (i4 + 5)) (lv' := [(4, .int (i4 + 5)), (6, .int r_21), (5, .int r_18), (0, .ref scr), (1, .ref a1), (2, .ref a2), (3, .ref a3)]) C dL_law_2087 (j := 6) rfl rfl (by decide) rfl ?_
          refine q_goto (tgt := 23) C dL_law_2090 (by decide) ?_
          exact q_sub [3, 4, 5, 6, 0] rfl h
        · have h := h.2 z
          refine q_iconst (v := 0) C dL_law_359 (by decide) ?_
          exact h.elim
    · have h := h.2 z
      refine q_iconst (v := 0) C dL_law_342 (by decide) ?_
      exact h.elim
set_option maxRecDepth 100000 in
set_option maxHeartbeats 8000000 in
theorem arm_L_law_364 {p : Program} {l : Launch} {e : Env} {s : State} {m : MethodId} {below : List Frame} {meth : Method} {c : Code} {D : va_G} {cA : Nat → ClassId} {lo scr L : Nat} {xs : Nat → Int32} (C : Cx p s m #[Value.ref scr] c cL_law 9 RL wsL_law D cA lo) (hl : l.stackTraces = false) (hX : va_X scr L xs s s.heap) (hbl : scr < s.heap.size ∧ lo = s.heap.size) (hr : meth.sig.returnType = ret) (hlk : meth.locks = false) (M : Mm) (a1 : Nat) (a2 : Nat) (a3 : Nat) (i4 : Int32) (cc zz : Nat) (h : A_L_law_364 (fun (a1 : Nat) (a2 : Nat) (a3 : Nat) (i4 : Int32) (M : Mm) (cc zz : Nat) => QW p l e room_1 s m #[Value.ref scr] below meth c (lw_Z below #[Value.ref scr] s) 9 D cA lo cc zz M 23 [(0, .ref scr), (1, .ref a1), (2, .ref a2), (3, .ref a3), (4, .int i4)] []) 600002 7302232 L xs M a1 a2 a3 i4 cc zz) : QW p l e room_1 s m #[Value.ref scr] below meth c (lw_Z below #[Value.ref scr] s) 9 D cA lo cc zz M 364 [(0, .ref scr), (1, .ref a1), (2, .ref a2), (3, .ref a3), (4, .int i4)] [] := by
  unfold A_L_law_364 at h
  refine q_aload_n C dL_law_364 rfl (j := 1) rfl ?_
  refine q_aload_n C dL_law_365 rfl (j := 0) rfl ?_
  refine q_iload C dL_law_366 (j := 4) rfl ?_
  refine q_iconst (v := 1) C dL_law_368 (by decide) ?_
  refine q_iadd C dL_law_369 ?_
  refine q_sld hX hbl C h.1 dL_law_370 ?_
  have h := h.2
  refine q_aload_n C dL_law_371 rfl (j := 0) rfl ?_
  refine q_iload C dL_law_372 (j := 4) rfl ?_
  refine q_iconst (v := 2) C dL_law_374 (by decide) ?_
  refine q_iadd C dL_law_375 ?_
  refine q_sld hX hbl C h.1 dL_law_376 ?_
  have h := h.2
  refine q_aload_n C dL_law_377 rfl (j := 0) rfl ?_
  refine q_iload C dL_law_378 (j := 4) rfl ?_
  refine q_iconst (v := 3) C dL_law_380 (by decide) ?_
  refine q_iadd C dL_law_381 ?_
  refine q_sld hX hbl C h.1 dL_law_382 ?_
  have h := h.2
  refine q_aload_n C dL_law_383 rfl (j := 0) rfl ?_
  refine q_iload C dL_law_384 (j := 4) rfl ?_
  refine q_iconst (v := 4) C dL_law_386 (by decide) ?_
  refine q_iadd C dL_law_387 ?_
  refine q_sld hX hbl C h.1 dL_law_388 ?_
  have h := h.2
  refine q_aload_n C dL_law_389 rfl (j := 3) rfl ?_
  obtain ⟨dc_28, ds_28, hcz, h⟩ := h
  refine q_xw (q_runSW (As := [.ref a1, .int (xs (i4 + 1).toNatClampNeg), .int (xs (i4 + 2).toNatClampNeg), .int (xs (i4 + 3).toNatClampNeg), .int (xs (i4 + 4).toNatClampNeg), .ref a3]) (st := []) C (c_L_face l hl D cA lo h) (vx_cwSW 6 C.2.2.2.2.1 gL_law_L_face rfl rfl rfl (by decide +kernel) ⟨Nat.le_of_ble_eq_true rfl, Nat.le_of_ble_eq_true rfl⟩) rfl rfl (Nat.le_of_ble_eq_true rfl) dL_law_390 hcz) (fun E M_x h => ?_) (fun r_26 M_27 h => ?_)
  · exact h.elim
  · refine q_istore (lv' := [(5, .int r_26), (0, .ref scr), (1, .ref a1), (2, .ref a2), (3, .ref a3), (4, .int i4)]) C dL_law_393 (by decide) rfl ?_
    refine q_aload_n C dL_law_395 rfl (j := 3) rfl ?_
    refine q_aload_n C dL_law_396 rfl (j := 1) rfl ?_
    refine q_iload C dL_law_397 (j := 5) rfl ?_
    refine q_iconst (v := 1) C dL_law_399 (by decide) ?_
    refine q_iadd C dL_law_400 ?_
    refine q_sld hX hbl C h.1 dL_law_401 ?_
    have h := h.2
    refine q_aload_n C dL_law_402 rfl (j := 1) rfl ?_
    refine q_iload C dL_law_403 (j := 5) rfl ?_
    refine q_iconst (v := 2) C dL_law_405 (by decide) ?_
    refine q_iadd C dL_law_406 ?_
    refine q_sld hX hbl C h.1 dL_law_407 ?_
    have h := h.2
    refine q_aload_n C dL_law_408 rfl (j := 1) rfl ?_
    refine q_iload C dL_law_409 (j := 5) rfl ?_
    refine q_iconst (v := 3) C dL_law_411 (by decide) ?_
    refine q_iadd C dL_law_412 ?_
    refine q_sld hX hbl C h.1 dL_law_413 ?_
    have h := h.2
    refine q_aload_n C dL_law_414 rfl (j := 1) rfl ?_
    refine q_iload C dL_law_415 (j := 5) rfl ?_
    refine q_iconst (v := 4) C dL_law_417 (by decide) ?_
    refine q_iadd C dL_law_418 ?_
    refine q_sld hX hbl C h.1 dL_law_419 ?_
    have h := h.2
    obtain ⟨dc_31, ds_31, hcz, h⟩ := h
    refine q_ci (q_runV (As := [.int (xs (i4 + 1).toNatClampNeg), .int (xs (i4 + 2).toNatClampNeg), .int (xs (i4 + 3).toNatClampNeg), .int (xs (i4 + 4).toNatClampNeg)]) (st := []) C (c_X9_face l D cA lo h.2) (cwV 4 C.2.2.2.2.1 gL_law_X9_face rfl rfl rfl (by decide +kernel) ⟨Nat.le_of_ble_eq_true rfl, Nat.le_of_ble_eq_true rfl⟩) h.1 (by decide) rfl rfl rfl (Nat.le_of_ble_eq_true rfl) dL_law_420 hcz) (fun r_29 M_30 h => ?_)
    refine q_istore (lv' := [(6, .int r_29), (5, .int r_26), (0, .ref scr), (1, .ref a1), (2, .ref a2), (3, .ref a3), (4, .int i4)]) C dL_law_423 (by decide) rfl ?_
    refine q_aload_n C dL_law_425 rfl (j := 4) rfl ?_
    have hcz := h.1
    have h := h.2
    refine q_ci (q_runV (As := []) (st := []) C (c_X9_thrown l D cA lo h.2) (cwV 0 C.2.2.2.2.1 gL_law_X9_thrown rfl rfl rfl (by decide +kernel) ⟨Nat.le_of_ble_eq_true rfl, Nat.le_of_ble_eq_true rfl⟩) h.1 (by decide) rfl rfl rfl (Nat.le_of_ble_eq_true rfl) dL_law_426 ⟨Nat.le_trans (Nat.le_of_eq (Nat.add_zero _)) hcz.1, Nat.le_trans (Nat.le_of_eq (Nat.add_zero _)) hcz.2⟩) (fun r_32 M_z h => ?_)
    refine q_mem h.1 ?_
    have h := h.2
    refine q_iload C dL_law_429 (j := 1) rfl ?_
    refine q_icmp_eq (tgt := 436) C dL_law_431 (by decide) (fun z => ?_) (fun z => ?_)
    · have h := h.1 z
      refine q_iload C dL_law_436 (j := 1) rfl ?_
      refine q_if_ne (tgt := 453) C dL_law_438 (by decide) (fun z => ?_) (fun z => ?_)
      · have h := h.1 z
        refine q_goto (tgt := 2087) C dL_law_453 (by decide) ?_
        refine q_iinc (v := (i4 + 5)) (lv' := [(4, .int (i4 + 5)), (6, .int r_29), (5, .int r_26), (0, .ref scr), (1, .ref a1), (2, .ref a2), (3, .ref a3)]) C dL_law_2087 (j := 6) rfl rfl (by decide) rfl ?_
        refine q_goto (tgt := 23) C dL_law_2090 (by decide) ?_
        exact q_sub [3, 4, 5, 6, 0] rfl h
      · have h := h.2 z
        refine q_aload_n C dL_law_441 rfl (j := 5) rfl ?_
        refine q_iconst (v := 0) C dL_law_442 (by decide) ?_
        obtain ⟨n_33, z1, z2, h⟩ := h
        refine q_lald C z1 z2 dL_law_443 ?_
        refine q_iload C dL_law_444 (j := 0) rfl ?_
        refine q_i2l C dL_law_446 ?_
        refine q_lcmp C dL_law_447 ?_
        refine q_if_eq (tgt := 453) C dL_law_448 (by decide) (fun z => ?_) (fun z => ?_)
        · have h := h.1 z
          refine q_goto (tgt := 2087) C dL_law_453 (by decide) ?_
          refine q_iinc (v := (i4 + 5)) (lv' := [(4, .int (i4 + 5)), (6, .int r_29), (5, .int r_26), (0, .ref scr), (1, .ref a1), (2, .ref a2), (3, .ref a3)]) C dL_law_2087 (j := 6) rfl rfl (by decide) rfl ?_
          refine q_goto (tgt := 23) C dL_law_2090 (by decide) ?_
          exact q_sub [3, 4, 5, 6, 0] rfl h
        · have h := h.2 z
          refine q_iconst (v := 0) C dL_law_451 (by decide) ?_
          exact h.elim
    · have h := h.2 z
      refine q_iconst (v := 0) C dL_law_434 (by decide) ?_
      exact h.elim
set_option maxRecDepth 100000 in
set_option maxHeartbeats 8000000 in
theorem arm_L_law_456 {p : Program} {l : Launch} {e : Env} {s : State} {m : MethodId} {below : List Frame} {meth : Method} {c : Code} {D : va_G} {cA : Nat → ClassId} {lo scr L : Nat} {xs : Nat → Int32} (C : Cx p s m #[Value.ref scr] c cL_law 9 RL wsL_law D cA lo) (hl : l.stackTraces = false) (hX : va_X scr L xs s s.heap) (hbl : scr < s.heap.size ∧ lo = s.heap.size) (hr : meth.sig.returnType = ret) (hlk : meth.locks = false) (M : Mm) (a1 : Nat) (a2 : Nat) (a3 : Nat) (i4 : Int32) (cc zz : Nat) (h : A_L_law_456 (fun (a1 : Nat) (a2 : Nat) (a3 : Nat) (i4 : Int32) (M : Mm) (cc zz : Nat) => QW p l e room_1 s m #[Value.ref scr] below meth c (lw_Z below #[Value.ref scr] s) 9 D cA lo cc zz M 23 [(0, .ref scr), (1, .ref a1), (2, .ref a2), (3, .ref a3), (4, .int i4)] []) 600002 7302232 L xs M a1 a2 a3 i4 cc zz) : QW p l e room_1 s m #[Value.ref scr] below meth c (lw_Z below #[Value.ref scr] s) 9 D cA lo cc zz M 456 [(0, .ref scr), (1, .ref a1), (2, .ref a2), (3, .ref a3), (4, .int i4)] [] := by
  unfold A_L_law_456 at h
  refine q_aload_n C dL_law_456 rfl (j := 1) rfl ?_
  refine q_aload_n C dL_law_457 rfl (j := 0) rfl ?_
  refine q_iload C dL_law_458 (j := 4) rfl ?_
  refine q_iconst (v := 1) C dL_law_460 (by decide) ?_
  refine q_iadd C dL_law_461 ?_
  refine q_sld hX hbl C h.1 dL_law_462 ?_
  have h := h.2
  refine q_aload_n C dL_law_463 rfl (j := 3) rfl ?_
  obtain ⟨dc_36, ds_36, hcz, h⟩ := h
  refine q_xw (q_runSW (As := [.ref a1, .int (xs (i4 + 1).toNatClampNeg), .ref a3]) (st := []) C (c_L_dropFace l hl D cA lo h) (vx_cwSW 3 C.2.2.2.2.1 gL_law_L_dropFace rfl rfl rfl (by decide +kernel) ⟨Nat.le_of_ble_eq_true rfl, Nat.le_of_ble_eq_true rfl⟩) rfl rfl (Nat.le_of_ble_eq_true rfl) dL_law_464 hcz) (fun E M_x h => ?_) (fun r_34 M_35 h => ?_)
  · exact h.elim
  · refine q_istore (lv' := [(5, .int r_34), (0, .ref scr), (1, .ref a1), (2, .ref a2), (3, .ref a3), (4, .int i4)]) C dL_law_467 (by decide) rfl ?_
    refine q_aload_n C dL_law_469 rfl (j := 3) rfl ?_
    refine q_aload_n C dL_law_470 rfl (j := 1) rfl ?_
    refine q_iload C dL_law_471 (j := 5) rfl ?_
    refine q_iconst (v := 1) C dL_law_473 (by decide) ?_
    refine q_iadd C dL_law_474 ?_
    refine q_sld hX hbl C h.1 dL_law_475 ?_
    have h := h.2
    have hcz := h.1
    have h := h.2
    refine q_ci (q_runV (As := [.int (xs (i4 + 1).toNatClampNeg)]) (st := []) C (c_X9_dropFace l D cA lo h.2) (cwV 1 C.2.2.2.2.1 gL_law_X9_dropFace rfl rfl rfl (by decide +kernel) ⟨Nat.le_of_ble_eq_true rfl, Nat.le_of_ble_eq_true rfl⟩) h.1 (by decide) rfl rfl rfl (Nat.le_of_ble_eq_true rfl) dL_law_476 ⟨Nat.le_trans (Nat.le_of_eq (Nat.add_zero _)) hcz.1, Nat.le_trans (Nat.le_of_eq (Nat.add_zero _)) hcz.2⟩) (fun r_37 M_38 h => ?_)
    refine q_istore (lv' := [(6, .int r_37), (5, .int r_34), (0, .ref scr), (1, .ref a1), (2, .ref a2), (3, .ref a3), (4, .int i4)]) C dL_law_479 (by decide) rfl ?_
    refine q_aload_n C dL_law_481 rfl (j := 4) rfl ?_
    have hcz := h.1
    have h := h.2
    refine q_ci (q_runV (As := []) (st := []) C (c_X9_thrown l D cA lo h.2) (cwV 0 C.2.2.2.2.1 gL_law_X9_thrown rfl rfl rfl (by decide +kernel) ⟨Nat.le_of_ble_eq_true rfl, Nat.le_of_ble_eq_true rfl⟩) h.1 (by decide) rfl rfl rfl (Nat.le_of_ble_eq_true rfl) dL_law_482 ⟨Nat.le_trans (Nat.le_of_eq (Nat.add_zero _)) hcz.1, Nat.le_trans (Nat.le_of_eq (Nat.add_zero _)) hcz.2⟩) (fun r_39 M_z h => ?_)
    refine q_mem h.1 ?_
    have h := h.2
    refine q_iload C dL_law_485 (j := 1) rfl ?_
    refine q_icmp_eq (tgt := 492) C dL_law_487 (by decide) (fun z => ?_) (fun z => ?_)
    · have h := h.1 z
      refine q_iload C dL_law_492 (j := 1) rfl ?_
      refine q_if_ne (tgt := 509) C dL_law_494 (by decide) (fun z => ?_) (fun z => ?_)
      · have h := h.1 z
        refine q_goto (tgt := 2087) C dL_law_509 (by decide) ?_
        refine q_iinc (v := (i4 + 5)) (lv' := [(4, .int (i4 + 5)), (6, .int r_37), (5, .int r_34), (0, .ref scr), (1, .ref a1), (2, .ref a2), (3, .ref a3)]) C dL_law_2087 (j := 6) rfl rfl (by decide) rfl ?_
        refine q_goto (tgt := 23) C dL_law_2090 (by decide) ?_
        exact q_sub [3, 4, 5, 6, 0] rfl h
      · have h := h.2 z
        refine q_aload_n C dL_law_497 rfl (j := 5) rfl ?_
        refine q_iconst (v := 0) C dL_law_498 (by decide) ?_
        obtain ⟨n_40, z1, z2, h⟩ := h
        refine q_lald C z1 z2 dL_law_499 ?_
        refine q_iload C dL_law_500 (j := 0) rfl ?_
        refine q_i2l C dL_law_502 ?_
        refine q_lcmp C dL_law_503 ?_
        refine q_if_eq (tgt := 509) C dL_law_504 (by decide) (fun z => ?_) (fun z => ?_)
        · have h := h.1 z
          refine q_goto (tgt := 2087) C dL_law_509 (by decide) ?_
          refine q_iinc (v := (i4 + 5)) (lv' := [(4, .int (i4 + 5)), (6, .int r_37), (5, .int r_34), (0, .ref scr), (1, .ref a1), (2, .ref a2), (3, .ref a3)]) C dL_law_2087 (j := 6) rfl rfl (by decide) rfl ?_
          refine q_goto (tgt := 23) C dL_law_2090 (by decide) ?_
          exact q_sub [3, 4, 5, 6, 0] rfl h
        · have h := h.2 z
          refine q_iconst (v := 0) C dL_law_507 (by decide) ?_
          exact h.elim
    · have h := h.2 z
      refine q_iconst (v := 0) C dL_law_490 (by decide) ?_
      exact h.elim
set_option maxRecDepth 100000 in
set_option maxHeartbeats 8000000 in
theorem arm_L_law_512 {p : Program} {l : Launch} {e : Env} {s : State} {m : MethodId} {below : List Frame} {meth : Method} {c : Code} {D : va_G} {cA : Nat → ClassId} {lo scr L : Nat} {xs : Nat → Int32} (C : Cx p s m #[Value.ref scr] c cL_law 9 RL wsL_law D cA lo) (hl : l.stackTraces = false) (hX : va_X scr L xs s s.heap) (hbl : scr < s.heap.size ∧ lo = s.heap.size) (hr : meth.sig.returnType = ret) (hlk : meth.locks = false) (M : Mm) (a1 : Nat) (a2 : Nat) (a3 : Nat) (i4 : Int32) (cc zz : Nat) (h : A_L_law_512 (fun (a1 : Nat) (a2 : Nat) (a3 : Nat) (i4 : Int32) (M : Mm) (cc zz : Nat) => QW p l e room_1 s m #[Value.ref scr] below meth c (lw_Z below #[Value.ref scr] s) 9 D cA lo cc zz M 23 [(0, .ref scr), (1, .ref a1), (2, .ref a2), (3, .ref a3), (4, .int i4)] []) 600002 7302232 L xs M a1 a2 a3 i4 cc zz) : QW p l e room_1 s m #[Value.ref scr] below meth c (lw_Z below #[Value.ref scr] s) 9 D cA lo cc zz M 512 [(0, .ref scr), (1, .ref a1), (2, .ref a2), (3, .ref a3), (4, .int i4)] [] := by
  unfold A_L_law_512 at h
  refine q_aload_n C dL_law_512 rfl (j := 1) rfl ?_
  refine q_aload_n C dL_law_513 rfl (j := 0) rfl ?_
  refine q_iload C dL_law_514 (j := 4) rfl ?_
  refine q_iconst (v := 1) C dL_law_516 (by decide) ?_
  refine q_iadd C dL_law_517 ?_
  refine q_sld hX hbl C h.1 dL_law_518 ?_
  have h := h.2
  refine q_aload_n C dL_law_519 rfl (j := 3) rfl ?_
  obtain ⟨dc_43, ds_43, hcz, h⟩ := h
  refine q_xw (q_runSW (As := [.ref a1, .int (xs (i4 + 1).toNatClampNeg), .ref a3]) (st := []) C (c_L_dropPoint l hl D cA lo h) (vx_cwSW 3 C.2.2.2.2.1 gL_law_L_dropPoint rfl rfl rfl (by decide +kernel) ⟨Nat.le_of_ble_eq_true rfl, Nat.le_of_ble_eq_true rfl⟩) rfl rfl (Nat.le_of_ble_eq_true rfl) dL_law_520 hcz) (fun E M_x h => ?_) (fun r_41 M_42 h => ?_)
  · exact h.elim
  · refine q_istore (lv' := [(5, .int r_41), (0, .ref scr), (1, .ref a1), (2, .ref a2), (3, .ref a3), (4, .int i4)]) C dL_law_523 (by decide) rfl ?_
    refine q_aload_n C dL_law_525 rfl (j := 3) rfl ?_
    refine q_aload_n C dL_law_526 rfl (j := 1) rfl ?_
    refine q_iload C dL_law_527 (j := 5) rfl ?_
    refine q_iconst (v := 1) C dL_law_529 (by decide) ?_
    refine q_iadd C dL_law_530 ?_
    refine q_sld hX hbl C h.1 dL_law_531 ?_
    have h := h.2
    have hcz := h.1
    have h := h.2
    refine q_ci (q_runV (As := [.int (xs (i4 + 1).toNatClampNeg)]) (st := []) C (c_X9_dropPoint l D cA lo h.2) (cwV 1 C.2.2.2.2.1 gL_law_X9_dropPoint rfl rfl rfl (by decide +kernel) ⟨Nat.le_of_ble_eq_true rfl, Nat.le_of_ble_eq_true rfl⟩) h.1 (by decide) rfl rfl rfl (Nat.le_of_ble_eq_true rfl) dL_law_532 ⟨Nat.le_trans (Nat.le_of_eq (Nat.add_zero _)) hcz.1, Nat.le_trans (Nat.le_of_eq (Nat.add_zero _)) hcz.2⟩) (fun r_44 M_45 h => ?_)
    refine q_istore (lv' := [(6, .int r_44), (5, .int r_41), (0, .ref scr), (1, .ref a1), (2, .ref a2), (3, .ref a3), (4, .int i4)]) C dL_law_535 (by decide) rfl ?_
    refine q_aload_n C dL_law_537 rfl (j := 4) rfl ?_
    have hcz := h.1
    have h := h.2
    refine q_ci (q_runV (As := []) (st := []) C (c_X9_thrown l D cA lo h.2) (cwV 0 C.2.2.2.2.1 gL_law_X9_thrown rfl rfl rfl (by decide +kernel) ⟨Nat.le_of_ble_eq_true rfl, Nat.le_of_ble_eq_true rfl⟩) h.1 (by decide) rfl rfl rfl (Nat.le_of_ble_eq_true rfl) dL_law_538 ⟨Nat.le_trans (Nat.le_of_eq (Nat.add_zero _)) hcz.1, Nat.le_trans (Nat.le_of_eq (Nat.add_zero _)) hcz.2⟩) (fun r_46 M_z h => ?_)
    refine q_mem h.1 ?_
    have h := h.2
    refine q_iload C dL_law_541 (j := 1) rfl ?_
    refine q_icmp_eq (tgt := 548) C dL_law_543 (by decide) (fun z => ?_) (fun z => ?_)
    · have h := h.1 z
      refine q_iload C dL_law_548 (j := 1) rfl ?_
      refine q_if_ne (tgt := 565) C dL_law_550 (by decide) (fun z => ?_) (fun z => ?_)
      · have h := h.1 z
        refine q_goto (tgt := 2087) C dL_law_565 (by decide) ?_
        refine q_iinc (v := (i4 + 5)) (lv' := [(4, .int (i4 + 5)), (6, .int r_44), (5, .int r_41), (0, .ref scr), (1, .ref a1), (2, .ref a2), (3, .ref a3)]) C dL_law_2087 (j := 6) rfl rfl (by decide) rfl ?_
        refine q_goto (tgt := 23) C dL_law_2090 (by decide) ?_
        exact q_sub [3, 4, 5, 6, 0] rfl h
      · have h := h.2 z
        refine q_aload_n C dL_law_553 rfl (j := 5) rfl ?_
        refine q_iconst (v := 0) C dL_law_554 (by decide) ?_
        obtain ⟨n_47, z1, z2, h⟩ := h
        refine q_lald C z1 z2 dL_law_555 ?_
        refine q_iload C dL_law_556 (j := 0) rfl ?_
        refine q_i2l C dL_law_558 ?_
        refine q_lcmp C dL_law_559 ?_
        refine q_if_eq (tgt := 565) C dL_law_560 (by decide) (fun z => ?_) (fun z => ?_)
        · have h := h.1 z
          refine q_goto (tgt := 2087) C dL_law_565 (by decide) ?_
          refine q_iinc (v := (i4 + 5)) (lv' := [(4, .int (i4 + 5)), (6, .int r_44), (5, .int r_41), (0, .ref scr), (1, .ref a1), (2, .ref a2), (3, .ref a3)]) C dL_law_2087 (j := 6) rfl rfl (by decide) rfl ?_
          refine q_goto (tgt := 23) C dL_law_2090 (by decide) ?_
          exact q_sub [3, 4, 5, 6, 0] rfl h
        · have h := h.2 z
          refine q_iconst (v := 0) C dL_law_563 (by decide) ?_
          exact h.elim
    · have h := h.2 z
      refine q_iconst (v := 0) C dL_law_546 (by decide) ?_
      exact h.elim
set_option maxRecDepth 100000 in
set_option maxHeartbeats 8000000 in
theorem arm_L_law_568 {p : Program} {l : Launch} {e : Env} {s : State} {m : MethodId} {below : List Frame} {meth : Method} {c : Code} {D : va_G} {cA : Nat → ClassId} {lo scr L : Nat} {xs : Nat → Int32} (C : Cx p s m #[Value.ref scr] c cL_law 9 RL wsL_law D cA lo) (hl : l.stackTraces = false) (hX : va_X scr L xs s s.heap) (hbl : scr < s.heap.size ∧ lo = s.heap.size) (hr : meth.sig.returnType = ret) (hlk : meth.locks = false) (M : Mm) (a1 : Nat) (a2 : Nat) (a3 : Nat) (i4 : Int32) (cc zz : Nat) (h : A_L_law_568 (fun (a1 : Nat) (a2 : Nat) (a3 : Nat) (i4 : Int32) (M : Mm) (cc zz : Nat) => QW p l e room_1 s m #[Value.ref scr] below meth c (lw_Z below #[Value.ref scr] s) 9 D cA lo cc zz M 23 [(0, .ref scr), (1, .ref a1), (2, .ref a2), (3, .ref a3), (4, .int i4)] []) 600002 7302232 L xs M a1 a2 a3 i4 cc zz) : QW p l e room_1 s m #[Value.ref scr] below meth c (lw_Z below #[Value.ref scr] s) 9 D cA lo cc zz M 568 [(0, .ref scr), (1, .ref a1), (2, .ref a2), (3, .ref a3), (4, .int i4)] [] := by
  unfold A_L_law_568 at h
  refine q_aload_n C dL_law_568 rfl (j := 1) rfl ?_
  refine q_aload_n C dL_law_569 rfl (j := 0) rfl ?_
  refine q_iload C dL_law_570 (j := 4) rfl ?_
  refine q_iconst (v := 1) C dL_law_572 (by decide) ?_
  refine q_iadd C dL_law_573 ?_
  refine q_sld hX hbl C h.1 dL_law_574 ?_
  have h := h.2
  refine q_aload_n C dL_law_575 rfl (j := 0) rfl ?_
  refine q_iload C dL_law_576 (j := 4) rfl ?_
  refine q_iconst (v := 2) C dL_law_578 (by decide) ?_
  refine q_iadd C dL_law_579 ?_
  refine q_sld hX hbl C h.1 dL_law_580 ?_
  have h := h.2
  refine q_aload_n C dL_law_581 rfl (j := 0) rfl ?_
  refine q_iload C dL_law_582 (j := 4) rfl ?_
  refine q_iconst (v := 3) C dL_law_584 (by decide) ?_
  refine q_iadd C dL_law_585 ?_
  refine q_sld hX hbl C h.1 dL_law_586 ?_
  have h := h.2
  refine q_aload_n C dL_law_587 rfl (j := 0) rfl ?_
  refine q_iload C dL_law_588 (j := 4) rfl ?_
  refine q_iconst (v := 4) C dL_law_590 (by decide) ?_
  refine q_iadd C dL_law_591 ?_
  refine q_sld hX hbl C h.1 dL_law_592 ?_
  have h := h.2
  refine q_aload_n C dL_law_593 rfl (j := 3) rfl ?_
  obtain ⟨dc_50, ds_50, hcz, h⟩ := h
  refine q_xw (q_runSW (As := [.ref a1, .int (xs (i4 + 1).toNatClampNeg), .int (xs (i4 + 2).toNatClampNeg), .int (xs (i4 + 3).toNatClampNeg), .int (xs (i4 + 4).toNatClampNeg), .ref a3]) (st := []) C (c_L_box l hl D cA lo h) (vx_cwSW 6 C.2.2.2.2.1 gL_law_L_box rfl rfl rfl (by decide +kernel) ⟨Nat.le_of_ble_eq_true rfl, Nat.le_of_ble_eq_true rfl⟩) rfl rfl (Nat.le_of_ble_eq_true rfl) dL_law_594 hcz) (fun E M_x h => ?_) (fun r_48 M_49 h => ?_)
  · exact h.elim
  · refine q_istore (lv' := [(5, .int r_48), (0, .ref scr), (1, .ref a1), (2, .ref a2), (3, .ref a3), (4, .int i4)]) C dL_law_597 (by decide) rfl ?_
    refine q_aload_n C dL_law_599 rfl (j := 3) rfl ?_
    refine q_aload_n C dL_law_600 rfl (j := 1) rfl ?_
    refine q_iload C dL_law_601 (j := 5) rfl ?_
    refine q_iconst (v := 1) C dL_law_603 (by decide) ?_
    refine q_iadd C dL_law_604 ?_
    refine q_sld hX hbl C h.1 dL_law_605 ?_
    have h := h.2
    refine q_aload_n C dL_law_606 rfl (j := 1) rfl ?_
    refine q_iload C dL_law_607 (j := 5) rfl ?_
    refine q_iconst (v := 2) C dL_law_609 (by decide) ?_
    refine q_iadd C dL_law_610 ?_
    refine q_sld hX hbl C h.1 dL_law_611 ?_
    have h := h.2
    refine q_aload_n C dL_law_612 rfl (j := 1) rfl ?_
    refine q_iload C dL_law_613 (j := 5) rfl ?_
    refine q_iconst (v := 3) C dL_law_615 (by decide) ?_
    refine q_iadd C dL_law_616 ?_
    refine q_sld hX hbl C h.1 dL_law_617 ?_
    have h := h.2
    refine q_aload_n C dL_law_618 rfl (j := 1) rfl ?_
    refine q_iload C dL_law_619 (j := 5) rfl ?_
    refine q_iconst (v := 4) C dL_law_621 (by decide) ?_
    refine q_iadd C dL_law_622 ?_
    refine q_sld hX hbl C h.1 dL_law_623 ?_
    have h := h.2
    obtain ⟨dc_53, ds_53, hcz, h⟩ := h
    refine q_ci (q_runV (As := [.int (xs (i4 + 1).toNatClampNeg), .int (xs (i4 + 2).toNatClampNeg), .int (xs (i4 + 3).toNatClampNeg), .int (xs (i4 + 4).toNatClampNeg)]) (st := []) C (c_X9_box l D cA lo h.2) (cwV 4 C.2.2.2.2.1 gL_law_X9_box rfl rfl rfl (by decide +kernel) ⟨Nat.le_of_ble_eq_true rfl, Nat.le_of_ble_eq_true rfl⟩) h.1 (by decide) rfl rfl rfl (Nat.le_of_ble_eq_true rfl) dL_law_624 hcz) (fun r_51 M_52 h => ?_)
    refine q_istore (lv' := [(6, .int r_51), (5, .int r_48), (0, .ref scr), (1, .ref a1), (2, .ref a2), (3, .ref a3), (4, .int i4)]) C dL_law_627 (by decide) rfl ?_
    refine q_aload_n C dL_law_629 rfl (j := 4) rfl ?_
    have hcz := h.1
    have h := h.2
    refine q_ci (q_runV (As := []) (st := []) C (c_X9_thrown l D cA lo h.2) (cwV 0 C.2.2.2.2.1 gL_law_X9_thrown rfl rfl rfl (by decide +kernel) ⟨Nat.le_of_ble_eq_true rfl, Nat.le_of_ble_eq_true rfl⟩) h.1 (by decide) rfl rfl rfl (Nat.le_of_ble_eq_true rfl) dL_law_630 ⟨Nat.le_trans (Nat.le_of_eq (Nat.add_zero _)) hcz.1, Nat.le_trans (Nat.le_of_eq (Nat.add_zero _)) hcz.2⟩) (fun r_54 M_z h => ?_)
    refine q_mem h.1 ?_
    have h := h.2
    refine q_iload C dL_law_633 (j := 1) rfl ?_
    refine q_icmp_eq (tgt := 640) C dL_law_635 (by decide) (fun z => ?_) (fun z => ?_)
    · have h := h.1 z
      refine q_iload C dL_law_640 (j := 1) rfl ?_
      refine q_if_ne (tgt := 657) C dL_law_642 (by decide) (fun z => ?_) (fun z => ?_)
      · have h := h.1 z
        refine q_goto (tgt := 2087) C dL_law_657 (by decide) ?_
        refine q_iinc (v := (i4 + 5)) (lv' := [(4, .int (i4 + 5)), (6, .int r_51), (5, .int r_48), (0, .ref scr), (1, .ref a1), (2, .ref a2), (3, .ref a3)]) C dL_law_2087 (j := 6) rfl rfl (by decide) rfl ?_
        refine q_goto (tgt := 23) C dL_law_2090 (by decide) ?_
        exact q_sub [3, 4, 5, 6, 0] rfl h
      · have h := h.2 z
        refine q_aload_n C dL_law_645 rfl (j := 5) rfl ?_
        refine q_iconst (v := 0) C dL_law_646 (by decide) ?_
        obtain ⟨n_55, z1, z2, h⟩ := h
        refine q_lald C z1 z2 dL_law_647 ?_
        refine q_iload C dL_law_648 (j := 0) rfl ?_
        refine q_i2l C dL_law_650 ?_
        refine q_lcmp C dL_law_651 ?_
        refine q_if_eq (tgt := 657) C dL_law_652 (by decide) (fun z => ?_) (fun z => ?_)
        · have h := h.1 z
          refine q_goto (tgt := 2087) C dL_law_657 (by decide) ?_
          refine q_iinc (v := (i4 + 5)) (lv' := [(4, .int (i4 + 5)), (6, .int r_51), (5, .int r_48), (0, .ref scr), (1, .ref a1), (2, .ref a2), (3, .ref a3)]) C dL_law_2087 (j := 6) rfl rfl (by decide) rfl ?_
          refine q_goto (tgt := 23) C dL_law_2090 (by decide) ?_
          exact q_sub [3, 4, 5, 6, 0] rfl h
        · have h := h.2 z
          refine q_iconst (v := 0) C dL_law_655 (by decide) ?_
          exact h.elim
    · have h := h.2 z
      refine q_iconst (v := 0) C dL_law_638 (by decide) ?_
      exact h.elim
set_option maxRecDepth 100000 in
set_option maxHeartbeats 8000000 in
theorem arm_L_law_660 {p : Program} {l : Launch} {e : Env} {s : State} {m : MethodId} {below : List Frame} {meth : Method} {c : Code} {D : va_G} {cA : Nat → ClassId} {lo scr L : Nat} {xs : Nat → Int32} (C : Cx p s m #[Value.ref scr] c cL_law 9 RL wsL_law D cA lo) (hl : l.stackTraces = false) (hX : va_X scr L xs s s.heap) (hbl : scr < s.heap.size ∧ lo = s.heap.size) (hr : meth.sig.returnType = ret) (hlk : meth.locks = false) (M : Mm) (a1 : Nat) (a2 : Nat) (a3 : Nat) (i4 : Int32) (cc zz : Nat) (h : A_L_law_660 (fun (a1 : Nat) (a2 : Nat) (a3 : Nat) (i4 : Int32) (M : Mm) (cc zz : Nat) => QW p l e room_1 s m #[Value.ref scr] below meth c (lw_Z below #[Value.ref scr] s) 9 D cA lo cc zz M 23 [(0, .ref scr), (1, .ref a1), (2, .ref a2), (3, .ref a3), (4, .int i4)] []) 600002 7302232 L xs M a1 a2 a3 i4 cc zz) : QW p l e room_1 s m #[Value.ref scr] below meth c (lw_Z below #[Value.ref scr] s) 9 D cA lo cc zz M 660 [(0, .ref scr), (1, .ref a1), (2, .ref a2), (3, .ref a3), (4, .int i4)] [] := by
  unfold A_L_law_660 at h
  refine q_aload_n C dL_law_660 rfl (j := 1) rfl ?_
  refine q_aload_n C dL_law_661 rfl (j := 0) rfl ?_
  refine q_iload C dL_law_662 (j := 4) rfl ?_
  refine q_iconst (v := 1) C dL_law_664 (by decide) ?_
  refine q_iadd C dL_law_665 ?_
  refine q_sld hX hbl C h.1 dL_law_666 ?_
  have h := h.2
  refine q_aload_n C dL_law_667 rfl (j := 0) rfl ?_
  refine q_iload C dL_law_668 (j := 4) rfl ?_
  refine q_iconst (v := 2) C dL_law_670 (by decide) ?_
  refine q_iadd C dL_law_671 ?_
  refine q_sld hX hbl C h.1 dL_law_672 ?_
  have h := h.2
  refine q_aload_n C dL_law_673 rfl (j := 3) rfl ?_
  obtain ⟨dc_58, ds_58, hcz, h⟩ := h
  refine q_xw (q_runSW (As := [.ref a1, .int (xs (i4 + 1).toNatClampNeg), .int (xs (i4 + 2).toNatClampNeg), .ref a3]) (st := []) C (c_L_split l hl D cA lo h) (vx_cwSW 4 C.2.2.2.2.1 gL_law_L_split rfl rfl rfl (by decide +kernel) ⟨Nat.le_of_ble_eq_true rfl, Nat.le_of_ble_eq_true rfl⟩) rfl rfl (Nat.le_of_ble_eq_true rfl) dL_law_674 hcz) (fun E M_x h => ?_) (fun r_56 M_57 h => ?_)
  · exact h.elim
  · refine q_istore (lv' := [(5, .int r_56), (0, .ref scr), (1, .ref a1), (2, .ref a2), (3, .ref a3), (4, .int i4)]) C dL_law_677 (by decide) rfl ?_
    refine q_aload_n C dL_law_679 rfl (j := 3) rfl ?_
    refine q_aload_n C dL_law_680 rfl (j := 1) rfl ?_
    refine q_iload C dL_law_681 (j := 5) rfl ?_
    refine q_iconst (v := 1) C dL_law_683 (by decide) ?_
    refine q_iadd C dL_law_684 ?_
    refine q_sld hX hbl C h.1 dL_law_685 ?_
    have h := h.2
    refine q_aload_n C dL_law_686 rfl (j := 1) rfl ?_
    refine q_iload C dL_law_687 (j := 5) rfl ?_
    refine q_iconst (v := 2) C dL_law_689 (by decide) ?_
    refine q_iadd C dL_law_690 ?_
    refine q_sld hX hbl C h.1 dL_law_691 ?_
    have h := h.2
    have hcz := h.1
    have h := h.2
    refine q_ci (q_runV (As := [.int (xs (i4 + 1).toNatClampNeg), .int (xs (i4 + 2).toNatClampNeg)]) (st := []) C (c_X9_split l D cA lo h.2) (cwV 2 C.2.2.2.2.1 gL_law_X9_split rfl rfl rfl (by decide +kernel) ⟨Nat.le_of_ble_eq_true rfl, Nat.le_of_ble_eq_true rfl⟩) h.1 (by decide) rfl rfl rfl (Nat.le_of_ble_eq_true rfl) dL_law_692 ⟨Nat.le_trans (Nat.le_of_eq (Nat.add_zero _)) hcz.1, Nat.le_trans (Nat.le_of_eq (Nat.add_zero _)) hcz.2⟩) (fun r_59 M_60 h => ?_)
    refine q_istore (lv' := [(6, .int r_59), (5, .int r_56), (0, .ref scr), (1, .ref a1), (2, .ref a2), (3, .ref a3), (4, .int i4)]) C dL_law_695 (by decide) rfl ?_
    refine q_aload_n C dL_law_697 rfl (j := 4) rfl ?_
    have hcz := h.1
    have h := h.2
    refine q_ci (q_runV (As := []) (st := []) C (c_X9_thrown l D cA lo h.2) (cwV 0 C.2.2.2.2.1 gL_law_X9_thrown rfl rfl rfl (by decide +kernel) ⟨Nat.le_of_ble_eq_true rfl, Nat.le_of_ble_eq_true rfl⟩) h.1 (by decide) rfl rfl rfl (Nat.le_of_ble_eq_true rfl) dL_law_698 ⟨Nat.le_trans (Nat.le_of_eq (Nat.add_zero _)) hcz.1, Nat.le_trans (Nat.le_of_eq (Nat.add_zero _)) hcz.2⟩) (fun r_61 M_z h => ?_)
    refine q_mem h.1 ?_
    have h := h.2
    refine q_iload C dL_law_701 (j := 1) rfl ?_
    refine q_icmp_eq (tgt := 708) C dL_law_703 (by decide) (fun z => ?_) (fun z => ?_)
    · have h := h.1 z
      refine q_iload C dL_law_708 (j := 1) rfl ?_
      refine q_if_ne (tgt := 725) C dL_law_710 (by decide) (fun z => ?_) (fun z => ?_)
      · have h := h.1 z
        refine q_goto (tgt := 2087) C dL_law_725 (by decide) ?_
        refine q_iinc (v := (i4 + 5)) (lv' := [(4, .int (i4 + 5)), (6, .int r_59), (5, .int r_56), (0, .ref scr), (1, .ref a1), (2, .ref a2), (3, .ref a3)]) C dL_law_2087 (j := 6) rfl rfl (by decide) rfl ?_
        refine q_goto (tgt := 23) C dL_law_2090 (by decide) ?_
        exact q_sub [3, 4, 5, 6, 0] rfl h
      · have h := h.2 z
        refine q_aload_n C dL_law_713 rfl (j := 5) rfl ?_
        refine q_iconst (v := 0) C dL_law_714 (by decide) ?_
        obtain ⟨n_62, z1, z2, h⟩ := h
        refine q_lald C z1 z2 dL_law_715 ?_
        refine q_iload C dL_law_716 (j := 0) rfl ?_
        refine q_i2l C dL_law_718 ?_
        refine q_lcmp C dL_law_719 ?_
        refine q_if_eq (tgt := 725) C dL_law_720 (by decide) (fun z => ?_) (fun z => ?_)
        · have h := h.1 z
          refine q_goto (tgt := 2087) C dL_law_725 (by decide) ?_
          refine q_iinc (v := (i4 + 5)) (lv' := [(4, .int (i4 + 5)), (6, .int r_59), (5, .int r_56), (0, .ref scr), (1, .ref a1), (2, .ref a2), (3, .ref a3)]) C dL_law_2087 (j := 6) rfl rfl (by decide) rfl ?_
          refine q_goto (tgt := 23) C dL_law_2090 (by decide) ?_
          exact q_sub [3, 4, 5, 6, 0] rfl h
        · have h := h.2 z
          refine q_iconst (v := 0) C dL_law_723 (by decide) ?_
          exact h.elim
    · have h := h.2 z
      refine q_iconst (v := 0) C dL_law_706 (by decide) ?_
      exact h.elim
set_option maxRecDepth 100000 in
set_option maxHeartbeats 8000000 in
theorem arm_L_law_728 {p : Program} {l : Launch} {e : Env} {s : State} {m : MethodId} {below : List Frame} {meth : Method} {c : Code} {D : va_G} {cA : Nat → ClassId} {lo scr L : Nat} {xs : Nat → Int32} (C : Cx p s m #[Value.ref scr] c cL_law 9 RL wsL_law D cA lo) (hl : l.stackTraces = false) (hX : va_X scr L xs s s.heap) (hbl : scr < s.heap.size ∧ lo = s.heap.size) (hr : meth.sig.returnType = ret) (hlk : meth.locks = false) (M : Mm) (a1 : Nat) (a2 : Nat) (a3 : Nat) (i4 : Int32) (cc zz : Nat) (h : A_L_law_728 (fun (a1 : Nat) (a2 : Nat) (a3 : Nat) (i4 : Int32) (M : Mm) (cc zz : Nat) => QW p l e room_1 s m #[Value.ref scr] below meth c (lw_Z below #[Value.ref scr] s) 9 D cA lo cc zz M 23 [(0, .ref scr), (1, .ref a1), (2, .ref a2), (3, .ref a3), (4, .int i4)] []) 600002 7302232 L xs M a1 a2 a3 i4 cc zz) : QW p l e room_1 s m #[Value.ref scr] below meth c (lw_Z below #[Value.ref scr] s) 9 D cA lo cc zz M 728 [(0, .ref scr), (1, .ref a1), (2, .ref a2), (3, .ref a3), (4, .int i4)] [] := by
  unfold A_L_law_728 at h
  refine q_aload_n C dL_law_728 rfl (j := 1) rfl ?_
  refine q_aload_n C dL_law_729 rfl (j := 0) rfl ?_
  refine q_iload C dL_law_730 (j := 4) rfl ?_
  refine q_iconst (v := 1) C dL_law_732 (by decide) ?_
  refine q_iadd C dL_law_733 ?_
  refine q_sld hX hbl C h.1 dL_law_734 ?_
  have h := h.2
  refine q_aload_n C dL_law_735 rfl (j := 0) rfl ?_
  refine q_iload C dL_law_736 (j := 4) rfl ?_
  refine q_iconst (v := 2) C dL_law_738 (by decide) ?_
  refine q_iadd C dL_law_739 ?_
  refine q_sld hX hbl C h.1 dL_law_740 ?_
  have h := h.2
  refine q_aload_n C dL_law_741 rfl (j := 0) rfl ?_
  refine q_iload C dL_law_742 (j := 4) rfl ?_
  refine q_iconst (v := 3) C dL_law_744 (by decide) ?_
  refine q_iadd C dL_law_745 ?_
  refine q_sld hX hbl C h.1 dL_law_746 ?_
  have h := h.2
  refine q_aload_n C dL_law_747 rfl (j := 3) rfl ?_
  obtain ⟨dc_65, ds_65, hcz, h⟩ := h
  refine q_xw (q_runSW (As := [.ref a1, .int (xs (i4 + 1).toNatClampNeg), .int (xs (i4 + 2).toNatClampNeg), .int (xs (i4 + 3).toNatClampNeg), .ref a3]) (st := []) C (c_L_cut l hl D cA lo h) (vx_cwSW 5 C.2.2.2.2.1 gL_law_L_cut rfl rfl rfl (by decide +kernel) ⟨Nat.le_of_ble_eq_true rfl, Nat.le_of_ble_eq_true rfl⟩) rfl rfl (Nat.le_of_ble_eq_true rfl) dL_law_748 hcz) (fun E M_x h => ?_) (fun r_63 M_64 h => ?_)
  · exact h.elim
  · refine q_istore (lv' := [(5, .int r_63), (0, .ref scr), (1, .ref a1), (2, .ref a2), (3, .ref a3), (4, .int i4)]) C dL_law_751 (by decide) rfl ?_
    refine q_aload_n C dL_law_753 rfl (j := 3) rfl ?_
    refine q_aload_n C dL_law_754 rfl (j := 1) rfl ?_
    refine q_iload C dL_law_755 (j := 5) rfl ?_
    refine q_iconst (v := 1) C dL_law_757 (by decide) ?_
    refine q_iadd C dL_law_758 ?_
    refine q_sld hX hbl C h.1 dL_law_759 ?_
    have h := h.2
    refine q_aload_n C dL_law_760 rfl (j := 1) rfl ?_
    refine q_iload C dL_law_761 (j := 5) rfl ?_
    refine q_iconst (v := 2) C dL_law_763 (by decide) ?_
    refine q_iadd C dL_law_764 ?_
    refine q_sld hX hbl C h.1 dL_law_765 ?_
    have h := h.2
    refine q_aload_n C dL_law_766 rfl (j := 1) rfl ?_
    refine q_iload C dL_law_767 (j := 5) rfl ?_
    refine q_iconst (v := 3) C dL_law_769 (by decide) ?_
    refine q_iadd C dL_law_770 ?_
    refine q_sld hX hbl C h.1 dL_law_771 ?_
    have h := h.2
    have hcz := h.1
    have h := h.2
    refine q_ci (q_runV (As := [.int (xs (i4 + 1).toNatClampNeg), .int (xs (i4 + 2).toNatClampNeg), .int (xs (i4 + 3).toNatClampNeg)]) (st := []) C (c_X9_cut l D cA lo h.2) (cwV 3 C.2.2.2.2.1 gL_law_X9_cut rfl rfl rfl (by decide +kernel) ⟨Nat.le_of_ble_eq_true rfl, Nat.le_of_ble_eq_true rfl⟩) h.1 (by decide) rfl rfl rfl (Nat.le_of_ble_eq_true rfl) dL_law_772 ⟨Nat.le_trans (Nat.le_of_eq (Nat.add_zero _)) hcz.1, Nat.le_trans (Nat.le_of_eq (Nat.add_zero _)) hcz.2⟩) (fun r_66 M_67 h => ?_)
    refine q_istore (lv' := [(6, .int r_66), (5, .int r_63), (0, .ref scr), (1, .ref a1), (2, .ref a2), (3, .ref a3), (4, .int i4)]) C dL_law_775 (by decide) rfl ?_
    refine q_aload_n C dL_law_777 rfl (j := 4) rfl ?_
    have hcz := h.1
    have h := h.2
    refine q_ci (q_runV (As := []) (st := []) C (c_X9_thrown l D cA lo h.2) (cwV 0 C.2.2.2.2.1 gL_law_X9_thrown rfl rfl rfl (by decide +kernel) ⟨Nat.le_of_ble_eq_true rfl, Nat.le_of_ble_eq_true rfl⟩) h.1 (by decide) rfl rfl rfl (Nat.le_of_ble_eq_true rfl) dL_law_778 ⟨Nat.le_trans (Nat.le_of_eq (Nat.add_zero _)) hcz.1, Nat.le_trans (Nat.le_of_eq (Nat.add_zero _)) hcz.2⟩) (fun r_68 M_z h => ?_)
    refine q_mem h.1 ?_
    have h := h.2
    refine q_iload C dL_law_781 (j := 1) rfl ?_
    refine q_icmp_eq (tgt := 788) C dL_law_783 (by decide) (fun z => ?_) (fun z => ?_)
    · have h := h.1 z
      refine q_iload C dL_law_788 (j := 1) rfl ?_
      refine q_if_ne (tgt := 805) C dL_law_790 (by decide) (fun z => ?_) (fun z => ?_)
      · have h := h.1 z
        refine q_goto (tgt := 2087) C dL_law_805 (by decide) ?_
        refine q_iinc (v := (i4 + 5)) (lv' := [(4, .int (i4 + 5)), (6, .int r_66), (5, .int r_63), (0, .ref scr), (1, .ref a1), (2, .ref a2), (3, .ref a3)]) C dL_law_2087 (j := 6) rfl rfl (by decide) rfl ?_
        refine q_goto (tgt := 23) C dL_law_2090 (by decide) ?_
        exact q_sub [3, 4, 5, 6, 0] rfl h
      · have h := h.2 z
        refine q_aload_n C dL_law_793 rfl (j := 5) rfl ?_
        refine q_iconst (v := 0) C dL_law_794 (by decide) ?_
        obtain ⟨n_69, z1, z2, h⟩ := h
        refine q_lald C z1 z2 dL_law_795 ?_
        refine q_iload C dL_law_796 (j := 0) rfl ?_
        refine q_i2l C dL_law_798 ?_
        refine q_lcmp C dL_law_799 ?_
        refine q_if_eq (tgt := 805) C dL_law_800 (by decide) (fun z => ?_) (fun z => ?_)
        · have h := h.1 z
          refine q_goto (tgt := 2087) C dL_law_805 (by decide) ?_
          refine q_iinc (v := (i4 + 5)) (lv' := [(4, .int (i4 + 5)), (6, .int r_66), (5, .int r_63), (0, .ref scr), (1, .ref a1), (2, .ref a2), (3, .ref a3)]) C dL_law_2087 (j := 6) rfl rfl (by decide) rfl ?_
          refine q_goto (tgt := 23) C dL_law_2090 (by decide) ?_
          exact q_sub [3, 4, 5, 6, 0] rfl h
        · have h := h.2 z
          refine q_iconst (v := 0) C dL_law_803 (by decide) ?_
          exact h.elim
    · have h := h.2 z
      refine q_iconst (v := 0) C dL_law_786 (by decide) ?_
      exact h.elim
set_option maxRecDepth 100000 in
set_option maxHeartbeats 8000000 in
theorem arm_L_law_808 {p : Program} {l : Launch} {e : Env} {s : State} {m : MethodId} {below : List Frame} {meth : Method} {c : Code} {D : va_G} {cA : Nat → ClassId} {lo scr L : Nat} {xs : Nat → Int32} (C : Cx p s m #[Value.ref scr] c cL_law 9 RL wsL_law D cA lo) (hl : l.stackTraces = false) (hX : va_X scr L xs s s.heap) (hbl : scr < s.heap.size ∧ lo = s.heap.size) (hr : meth.sig.returnType = ret) (hlk : meth.locks = false) (M : Mm) (a1 : Nat) (a2 : Nat) (a3 : Nat) (i4 : Int32) (cc zz : Nat) (h : A_L_law_808 (fun (a1 : Nat) (a2 : Nat) (a3 : Nat) (i4 : Int32) (M : Mm) (cc zz : Nat) => QW p l e room_1 s m #[Value.ref scr] below meth c (lw_Z below #[Value.ref scr] s) 9 D cA lo cc zz M 23 [(0, .ref scr), (1, .ref a1), (2, .ref a2), (3, .ref a3), (4, .int i4)] []) 600002 7302232 L xs M a1 a2 a3 i4 cc zz) : QW p l e room_1 s m #[Value.ref scr] below meth c (lw_Z below #[Value.ref scr] s) 9 D cA lo cc zz M 808 [(0, .ref scr), (1, .ref a1), (2, .ref a2), (3, .ref a3), (4, .int i4)] [] := by
  unfold A_L_law_808 at h
  refine q_aload_n C dL_law_808 rfl (j := 1) rfl ?_
  refine q_aload_n C dL_law_809 rfl (j := 0) rfl ?_
  refine q_iload C dL_law_810 (j := 4) rfl ?_
  refine q_iconst (v := 1) C dL_law_812 (by decide) ?_
  refine q_iadd C dL_law_813 ?_
  refine q_sld hX hbl C h.1 dL_law_814 ?_
  have h := h.2
  refine q_aload_n C dL_law_815 rfl (j := 0) rfl ?_
  refine q_iload C dL_law_816 (j := 4) rfl ?_
  refine q_iconst (v := 2) C dL_law_818 (by decide) ?_
  refine q_iadd C dL_law_819 ?_
  refine q_sld hX hbl C h.1 dL_law_820 ?_
  have h := h.2
  refine q_aload_n C dL_law_821 rfl (j := 3) rfl ?_
  obtain ⟨dc_72, ds_72, hcz, h⟩ := h
  refine q_xw (q_runSW (As := [.ref a1, .int (xs (i4 + 1).toNatClampNeg), .int (xs (i4 + 2).toNatClampNeg), .ref a3]) (st := []) C (c_L_join l hl D cA lo h) (vx_cwSW 4 C.2.2.2.2.1 gL_law_L_join rfl rfl rfl (by decide +kernel) ⟨Nat.le_of_ble_eq_true rfl, Nat.le_of_ble_eq_true rfl⟩) rfl rfl (Nat.le_of_ble_eq_true rfl) dL_law_822 hcz) (fun E M_x h => ?_) (fun r_70 M_71 h => ?_)
  · exact h.elim
  · refine q_istore (lv' := [(5, .int r_70), (0, .ref scr), (1, .ref a1), (2, .ref a2), (3, .ref a3), (4, .int i4)]) C dL_law_825 (by decide) rfl ?_
    refine q_aload_n C dL_law_827 rfl (j := 3) rfl ?_
    refine q_aload_n C dL_law_828 rfl (j := 1) rfl ?_
    refine q_iload C dL_law_829 (j := 5) rfl ?_
    refine q_iconst (v := 1) C dL_law_831 (by decide) ?_
    refine q_iadd C dL_law_832 ?_
    refine q_sld hX hbl C h.1 dL_law_833 ?_
    have h := h.2
    refine q_aload_n C dL_law_834 rfl (j := 1) rfl ?_
    refine q_iload C dL_law_835 (j := 5) rfl ?_
    refine q_iconst (v := 2) C dL_law_837 (by decide) ?_
    refine q_iadd C dL_law_838 ?_
    refine q_sld hX hbl C h.1 dL_law_839 ?_
    have h := h.2
    have hcz := h.1
    have h := h.2
    refine q_ci (q_runV (As := [.int (xs (i4 + 1).toNatClampNeg), .int (xs (i4 + 2).toNatClampNeg)]) (st := []) C (c_X9_join_ l D cA lo h.2) (cwV 2 C.2.2.2.2.1 gL_law_X9_join_ rfl rfl rfl (by decide +kernel) ⟨Nat.le_of_ble_eq_true rfl, Nat.le_of_ble_eq_true rfl⟩) h.1 (by decide) rfl rfl rfl (Nat.le_of_ble_eq_true rfl) dL_law_840 ⟨Nat.le_trans (Nat.le_of_eq (Nat.add_zero _)) hcz.1, Nat.le_trans (Nat.le_of_eq (Nat.add_zero _)) hcz.2⟩) (fun r_73 M_74 h => ?_)
    refine q_istore (lv' := [(6, .int r_73), (5, .int r_70), (0, .ref scr), (1, .ref a1), (2, .ref a2), (3, .ref a3), (4, .int i4)]) C dL_law_843 (by decide) rfl ?_
    refine q_aload_n C dL_law_845 rfl (j := 4) rfl ?_
    have hcz := h.1
    have h := h.2
    refine q_ci (q_runV (As := []) (st := []) C (c_X9_thrown l D cA lo h.2) (cwV 0 C.2.2.2.2.1 gL_law_X9_thrown rfl rfl rfl (by decide +kernel) ⟨Nat.le_of_ble_eq_true rfl, Nat.le_of_ble_eq_true rfl⟩) h.1 (by decide) rfl rfl rfl (Nat.le_of_ble_eq_true rfl) dL_law_846 ⟨Nat.le_trans (Nat.le_of_eq (Nat.add_zero _)) hcz.1, Nat.le_trans (Nat.le_of_eq (Nat.add_zero _)) hcz.2⟩) (fun r_75 M_z h => ?_)
    refine q_mem h.1 ?_
    have h := h.2
    refine q_iload C dL_law_849 (j := 1) rfl ?_
    refine q_icmp_eq (tgt := 856) C dL_law_851 (by decide) (fun z => ?_) (fun z => ?_)
    · have h := h.1 z
      refine q_iload C dL_law_856 (j := 1) rfl ?_
      refine q_if_ne (tgt := 873) C dL_law_858 (by decide) (fun z => ?_) (fun z => ?_)
      · have h := h.1 z
        refine q_goto (tgt := 2087) C dL_law_873 (by decide) ?_
        refine q_iinc (v := (i4 + 5)) (lv' := [(4, .int (i4 + 5)), (6, .int r_73), (5, .int r_70), (0, .ref scr), (1, .ref a1), (2, .ref a2), (3, .ref a3)]) C dL_law_2087 (j := 6) rfl rfl (by decide) rfl ?_
        refine q_goto (tgt := 23) C dL_law_2090 (by decide) ?_
        exact q_sub [3, 4, 5, 6, 0] rfl h
      · have h := h.2 z
        refine q_aload_n C dL_law_861 rfl (j := 5) rfl ?_
        refine q_iconst (v := 0) C dL_law_862 (by decide) ?_
        obtain ⟨n_76, z1, z2, h⟩ := h
        refine q_lald C z1 z2 dL_law_863 ?_
        refine q_iload C dL_law_864 (j := 0) rfl ?_
        refine q_i2l C dL_law_866 ?_
        refine q_lcmp C dL_law_867 ?_
        refine q_if_eq (tgt := 873) C dL_law_868 (by decide) (fun z => ?_) (fun z => ?_)
        · have h := h.1 z
          refine q_goto (tgt := 2087) C dL_law_873 (by decide) ?_
          refine q_iinc (v := (i4 + 5)) (lv' := [(4, .int (i4 + 5)), (6, .int r_73), (5, .int r_70), (0, .ref scr), (1, .ref a1), (2, .ref a2), (3, .ref a3)]) C dL_law_2087 (j := 6) rfl rfl (by decide) rfl ?_
          refine q_goto (tgt := 23) C dL_law_2090 (by decide) ?_
          exact q_sub [3, 4, 5, 6, 0] rfl h
        · have h := h.2 z
          refine q_iconst (v := 0) C dL_law_871 (by decide) ?_
          exact h.elim
    · have h := h.2 z
      refine q_iconst (v := 0) C dL_law_854 (by decide) ?_
      exact h.elim
set_option maxRecDepth 100000 in
set_option maxHeartbeats 8000000 in
theorem arm_L_law_876 {p : Program} {l : Launch} {e : Env} {s : State} {m : MethodId} {below : List Frame} {meth : Method} {c : Code} {D : va_G} {cA : Nat → ClassId} {lo scr L : Nat} {xs : Nat → Int32} (C : Cx p s m #[Value.ref scr] c cL_law 9 RL wsL_law D cA lo) (hl : l.stackTraces = false) (hX : va_X scr L xs s s.heap) (hbl : scr < s.heap.size ∧ lo = s.heap.size) (hr : meth.sig.returnType = ret) (hlk : meth.locks = false) (M : Mm) (a1 : Nat) (a2 : Nat) (a3 : Nat) (i4 : Int32) (cc zz : Nat) (h : A_L_law_876 (fun (a1 : Nat) (a2 : Nat) (a3 : Nat) (i4 : Int32) (M : Mm) (cc zz : Nat) => QW p l e room_1 s m #[Value.ref scr] below meth c (lw_Z below #[Value.ref scr] s) 9 D cA lo cc zz M 23 [(0, .ref scr), (1, .ref a1), (2, .ref a2), (3, .ref a3), (4, .int i4)] []) 600002 7302232 L xs M a1 a2 a3 i4 cc zz) : QW p l e room_1 s m #[Value.ref scr] below meth c (lw_Z below #[Value.ref scr] s) 9 D cA lo cc zz M 876 [(0, .ref scr), (1, .ref a1), (2, .ref a2), (3, .ref a3), (4, .int i4)] [] := by
  unfold A_L_law_876 at h
  refine q_aload_n C dL_law_876 rfl (j := 1) rfl ?_
  refine q_aload_n C dL_law_877 rfl (j := 0) rfl ?_
  refine q_iload C dL_law_878 (j := 4) rfl ?_
  refine q_iconst (v := 1) C dL_law_880 (by decide) ?_
  refine q_iadd C dL_law_881 ?_
  refine q_sld hX hbl C h.1 dL_law_882 ?_
  have h := h.2
  refine q_aload_n C dL_law_883 rfl (j := 0) rfl ?_
  refine q_iload C dL_law_884 (j := 4) rfl ?_
  refine q_iconst (v := 2) C dL_law_886 (by decide) ?_
  refine q_iadd C dL_law_887 ?_
  refine q_sld hX hbl C h.1 dL_law_888 ?_
  have h := h.2
  refine q_aload_n C dL_law_889 rfl (j := 3) rfl ?_
  obtain ⟨dc_79, ds_79, hcz, h⟩ := h
  refine q_xw (q_runSW (As := [.ref a1, .int (xs (i4 + 1).toNatClampNeg), .int (xs (i4 + 2).toNatClampNeg), .ref a3]) (st := []) C (c_L_collapse l hl D cA lo h) (vx_cwSW 4 C.2.2.2.2.1 gL_law_L_collapse rfl rfl rfl (by decide +kernel) ⟨Nat.le_of_ble_eq_true rfl, Nat.le_of_ble_eq_true rfl⟩) rfl rfl (Nat.le_of_ble_eq_true rfl) dL_law_890 hcz) (fun E M_x h => ?_) (fun r_77 M_78 h => ?_)
  · exact h.elim
  · refine q_istore (lv' := [(5, .int r_77), (0, .ref scr), (1, .ref a1), (2, .ref a2), (3, .ref a3), (4, .int i4)]) C dL_law_893 (by decide) rfl ?_
    refine q_aload_n C dL_law_895 rfl (j := 3) rfl ?_
    refine q_aload_n C dL_law_896 rfl (j := 1) rfl ?_
    refine q_iload C dL_law_897 (j := 5) rfl ?_
    refine q_iconst (v := 1) C dL_law_899 (by decide) ?_
    refine q_iadd C dL_law_900 ?_
    refine q_sld hX hbl C h.1 dL_law_901 ?_
    have h := h.2
    refine q_aload_n C dL_law_902 rfl (j := 1) rfl ?_
    refine q_iload C dL_law_903 (j := 5) rfl ?_
    refine q_iconst (v := 2) C dL_law_905 (by decide) ?_
    refine q_iadd C dL_law_906 ?_
    refine q_sld hX hbl C h.1 dL_law_907 ?_
    have h := h.2
    have hcz := h.1
    have h := h.2
    refine q_ci (q_runV (As := [.int (xs (i4 + 1).toNatClampNeg), .int (xs (i4 + 2).toNatClampNeg)]) (st := []) C (c_X9_collapse l D cA lo h.2) (cwV 2 C.2.2.2.2.1 gL_law_X9_collapse rfl rfl rfl (by decide +kernel) ⟨Nat.le_of_ble_eq_true rfl, Nat.le_of_ble_eq_true rfl⟩) h.1 (by decide) rfl rfl rfl (Nat.le_of_ble_eq_true rfl) dL_law_908 ⟨Nat.le_trans (Nat.le_of_eq (Nat.add_zero _)) hcz.1, Nat.le_trans (Nat.le_of_eq (Nat.add_zero _)) hcz.2⟩) (fun r_80 M_81 h => ?_)
    refine q_istore (lv' := [(6, .int r_80), (5, .int r_77), (0, .ref scr), (1, .ref a1), (2, .ref a2), (3, .ref a3), (4, .int i4)]) C dL_law_911 (by decide) rfl ?_
    refine q_aload_n C dL_law_913 rfl (j := 4) rfl ?_
    have hcz := h.1
    have h := h.2
    refine q_ci (q_runV (As := []) (st := []) C (c_X9_thrown l D cA lo h.2) (cwV 0 C.2.2.2.2.1 gL_law_X9_thrown rfl rfl rfl (by decide +kernel) ⟨Nat.le_of_ble_eq_true rfl, Nat.le_of_ble_eq_true rfl⟩) h.1 (by decide) rfl rfl rfl (Nat.le_of_ble_eq_true rfl) dL_law_914 ⟨Nat.le_trans (Nat.le_of_eq (Nat.add_zero _)) hcz.1, Nat.le_trans (Nat.le_of_eq (Nat.add_zero _)) hcz.2⟩) (fun r_82 M_z h => ?_)
    refine q_mem h.1 ?_
    have h := h.2
    refine q_iload C dL_law_917 (j := 1) rfl ?_
    refine q_icmp_eq (tgt := 924) C dL_law_919 (by decide) (fun z => ?_) (fun z => ?_)
    · have h := h.1 z
      refine q_iload C dL_law_924 (j := 1) rfl ?_
      refine q_if_ne (tgt := 941) C dL_law_926 (by decide) (fun z => ?_) (fun z => ?_)
      · have h := h.1 z
        refine q_goto (tgt := 2087) C dL_law_941 (by decide) ?_
        refine q_iinc (v := (i4 + 5)) (lv' := [(4, .int (i4 + 5)), (6, .int r_80), (5, .int r_77), (0, .ref scr), (1, .ref a1), (2, .ref a2), (3, .ref a3)]) C dL_law_2087 (j := 6) rfl rfl (by decide) rfl ?_
        refine q_goto (tgt := 23) C dL_law_2090 (by decide) ?_
        exact q_sub [3, 4, 5, 6, 0] rfl h
      · have h := h.2 z
        refine q_aload_n C dL_law_929 rfl (j := 5) rfl ?_
        refine q_iconst (v := 0) C dL_law_930 (by decide) ?_
        obtain ⟨n_83, z1, z2, h⟩ := h
        refine q_lald C z1 z2 dL_law_931 ?_
        refine q_iload C dL_law_932 (j := 0) rfl ?_
        refine q_i2l C dL_law_934 ?_
        refine q_lcmp C dL_law_935 ?_
        refine q_if_eq (tgt := 941) C dL_law_936 (by decide) (fun z => ?_) (fun z => ?_)
        · have h := h.1 z
          refine q_goto (tgt := 2087) C dL_law_941 (by decide) ?_
          refine q_iinc (v := (i4 + 5)) (lv' := [(4, .int (i4 + 5)), (6, .int r_80), (5, .int r_77), (0, .ref scr), (1, .ref a1), (2, .ref a2), (3, .ref a3)]) C dL_law_2087 (j := 6) rfl rfl (by decide) rfl ?_
          refine q_goto (tgt := 23) C dL_law_2090 (by decide) ?_
          exact q_sub [3, 4, 5, 6, 0] rfl h
        · have h := h.2 z
          refine q_iconst (v := 0) C dL_law_939 (by decide) ?_
          exact h.elim
    · have h := h.2 z
      refine q_iconst (v := 0) C dL_law_922 (by decide) ?_
      exact h.elim
set_option maxRecDepth 100000 in
set_option maxHeartbeats 8000000 in
theorem arm_L_law_944 {p : Program} {l : Launch} {e : Env} {s : State} {m : MethodId} {below : List Frame} {meth : Method} {c : Code} {D : va_G} {cA : Nat → ClassId} {lo scr L : Nat} {xs : Nat → Int32} (C : Cx p s m #[Value.ref scr] c cL_law 9 RL wsL_law D cA lo) (hl : l.stackTraces = false) (hX : va_X scr L xs s s.heap) (hbl : scr < s.heap.size ∧ lo = s.heap.size) (hr : meth.sig.returnType = ret) (hlk : meth.locks = false) (M : Mm) (a1 : Nat) (a2 : Nat) (a3 : Nat) (i4 : Int32) (cc zz : Nat) (h : A_L_law_944 (fun (a1 : Nat) (a2 : Nat) (a3 : Nat) (i4 : Int32) (M : Mm) (cc zz : Nat) => QW p l e room_1 s m #[Value.ref scr] below meth c (lw_Z below #[Value.ref scr] s) 9 D cA lo cc zz M 23 [(0, .ref scr), (1, .ref a1), (2, .ref a2), (3, .ref a3), (4, .int i4)] []) 600002 7302232 L xs M a1 a2 a3 i4 cc zz) : QW p l e room_1 s m #[Value.ref scr] below meth c (lw_Z below #[Value.ref scr] s) 9 D cA lo cc zz M 944 [(0, .ref scr), (1, .ref a1), (2, .ref a2), (3, .ref a3), (4, .int i4)] [] := by
  unfold A_L_law_944 at h
  refine q_aload_n C dL_law_944 rfl (j := 1) rfl ?_
  refine q_aload_n C dL_law_945 rfl (j := 0) rfl ?_
  refine q_iload C dL_law_946 (j := 4) rfl ?_
  refine q_iconst (v := 1) C dL_law_948 (by decide) ?_
  refine q_iadd C dL_law_949 ?_
  refine q_sld hX hbl C h.1 dL_law_950 ?_
  have h := h.2
  refine q_aload_n C dL_law_951 rfl (j := 0) rfl ?_
  refine q_iload C dL_law_952 (j := 4) rfl ?_
  refine q_iconst (v := 2) C dL_law_954 (by decide) ?_
  refine q_iadd C dL_law_955 ?_
  refine q_sld hX hbl C h.1 dL_law_956 ?_
  have h := h.2
  refine q_aload_n C dL_law_957 rfl (j := 3) rfl ?_
  obtain ⟨dc_86, ds_86, hcz, h⟩ := h
  refine q_xw (q_runSW (As := [.ref a1, .int (xs (i4 + 1).toNatClampNeg), .int (xs (i4 + 2).toNatClampNeg), .ref a3]) (st := []) C (c_L_flip l hl D cA lo h) (vx_cwSW 4 C.2.2.2.2.1 gL_law_L_flip rfl rfl rfl (by decide +kernel) ⟨Nat.le_of_ble_eq_true rfl, Nat.le_of_ble_eq_true rfl⟩) rfl rfl (Nat.le_of_ble_eq_true rfl) dL_law_958 hcz) (fun E M_x h => ?_) (fun r_84 M_85 h => ?_)
  · exact h.elim
  · refine q_istore (lv' := [(5, .int r_84), (0, .ref scr), (1, .ref a1), (2, .ref a2), (3, .ref a3), (4, .int i4)]) C dL_law_961 (by decide) rfl ?_
    refine q_aload_n C dL_law_963 rfl (j := 3) rfl ?_
    refine q_aload_n C dL_law_964 rfl (j := 1) rfl ?_
    refine q_iload C dL_law_965 (j := 5) rfl ?_
    refine q_iconst (v := 1) C dL_law_967 (by decide) ?_
    refine q_iadd C dL_law_968 ?_
    refine q_sld hX hbl C h.1 dL_law_969 ?_
    have h := h.2
    refine q_aload_n C dL_law_970 rfl (j := 1) rfl ?_
    refine q_iload C dL_law_971 (j := 5) rfl ?_
    refine q_iconst (v := 2) C dL_law_973 (by decide) ?_
    refine q_iadd C dL_law_974 ?_
    refine q_sld hX hbl C h.1 dL_law_975 ?_
    have h := h.2
    have hcz := h.1
    have h := h.2
    refine q_ci (q_runV (As := [.int (xs (i4 + 1).toNatClampNeg), .int (xs (i4 + 2).toNatClampNeg)]) (st := []) C (c_X9_flip l D cA lo h.2) (cwV 2 C.2.2.2.2.1 gL_law_X9_flip rfl rfl rfl (by decide +kernel) ⟨Nat.le_of_ble_eq_true rfl, Nat.le_of_ble_eq_true rfl⟩) h.1 (by decide) rfl rfl rfl (Nat.le_of_ble_eq_true rfl) dL_law_976 ⟨Nat.le_trans (Nat.le_of_eq (Nat.add_zero _)) hcz.1, Nat.le_trans (Nat.le_of_eq (Nat.add_zero _)) hcz.2⟩) (fun r_87 M_88 h => ?_)
    refine q_istore (lv' := [(6, .int r_87), (5, .int r_84), (0, .ref scr), (1, .ref a1), (2, .ref a2), (3, .ref a3), (4, .int i4)]) C dL_law_979 (by decide) rfl ?_
    refine q_aload_n C dL_law_981 rfl (j := 4) rfl ?_
    have hcz := h.1
    have h := h.2
    refine q_ci (q_runV (As := []) (st := []) C (c_X9_thrown l D cA lo h.2) (cwV 0 C.2.2.2.2.1 gL_law_X9_thrown rfl rfl rfl (by decide +kernel) ⟨Nat.le_of_ble_eq_true rfl, Nat.le_of_ble_eq_true rfl⟩) h.1 (by decide) rfl rfl rfl (Nat.le_of_ble_eq_true rfl) dL_law_982 ⟨Nat.le_trans (Nat.le_of_eq (Nat.add_zero _)) hcz.1, Nat.le_trans (Nat.le_of_eq (Nat.add_zero _)) hcz.2⟩) (fun r_89 M_z h => ?_)
    refine q_mem h.1 ?_
    have h := h.2
    refine q_iload C dL_law_985 (j := 1) rfl ?_
    refine q_icmp_eq (tgt := 992) C dL_law_987 (by decide) (fun z => ?_) (fun z => ?_)
    · have h := h.1 z
      refine q_iload C dL_law_992 (j := 1) rfl ?_
      refine q_if_ne (tgt := 1009) C dL_law_994 (by decide) (fun z => ?_) (fun z => ?_)
      · have h := h.1 z
        refine q_goto (tgt := 2087) C dL_law_1009 (by decide) ?_
        refine q_iinc (v := (i4 + 5)) (lv' := [(4, .int (i4 + 5)), (6, .int r_87), (5, .int r_84), (0, .ref scr), (1, .ref a1), (2, .ref a2), (3, .ref a3)]) C dL_law_2087 (j := 6) rfl rfl (by decide) rfl ?_
        refine q_goto (tgt := 23) C dL_law_2090 (by decide) ?_
        exact q_sub [3, 4, 5, 6, 0] rfl h
      · have h := h.2 z
        refine q_aload_n C dL_law_997 rfl (j := 5) rfl ?_
        refine q_iconst (v := 0) C dL_law_998 (by decide) ?_
        obtain ⟨n_90, z1, z2, h⟩ := h
        refine q_lald C z1 z2 dL_law_999 ?_
        refine q_iload C dL_law_1000 (j := 0) rfl ?_
        refine q_i2l C dL_law_1002 ?_
        refine q_lcmp C dL_law_1003 ?_
        refine q_if_eq (tgt := 1009) C dL_law_1004 (by decide) (fun z => ?_) (fun z => ?_)
        · have h := h.1 z
          refine q_goto (tgt := 2087) C dL_law_1009 (by decide) ?_
          refine q_iinc (v := (i4 + 5)) (lv' := [(4, .int (i4 + 5)), (6, .int r_87), (5, .int r_84), (0, .ref scr), (1, .ref a1), (2, .ref a2), (3, .ref a3)]) C dL_law_2087 (j := 6) rfl rfl (by decide) rfl ?_
          refine q_goto (tgt := 23) C dL_law_2090 (by decide) ?_
          exact q_sub [3, 4, 5, 6, 0] rfl h
        · have h := h.2 z
          refine q_iconst (v := 0) C dL_law_1007 (by decide) ?_
          exact h.elim
    · have h := h.2 z
      refine q_iconst (v := 0) C dL_law_990 (by decide) ?_
      exact h.elim
set_option maxRecDepth 100000 in
set_option maxHeartbeats 8000000 in
theorem arm_L_law_1012 {p : Program} {l : Launch} {e : Env} {s : State} {m : MethodId} {below : List Frame} {meth : Method} {c : Code} {D : va_G} {cA : Nat → ClassId} {lo scr L : Nat} {xs : Nat → Int32} (C : Cx p s m #[Value.ref scr] c cL_law 9 RL wsL_law D cA lo) (hl : l.stackTraces = false) (hX : va_X scr L xs s s.heap) (hbl : scr < s.heap.size ∧ lo = s.heap.size) (hr : meth.sig.returnType = ret) (hlk : meth.locks = false) (M : Mm) (a1 : Nat) (a2 : Nat) (a3 : Nat) (i4 : Int32) (cc zz : Nat) (h : A_L_law_1012 (fun (a1 : Nat) (a2 : Nat) (a3 : Nat) (i4 : Int32) (M : Mm) (cc zz : Nat) => QW p l e room_1 s m #[Value.ref scr] below meth c (lw_Z below #[Value.ref scr] s) 9 D cA lo cc zz M 23 [(0, .ref scr), (1, .ref a1), (2, .ref a2), (3, .ref a3), (4, .int i4)] []) 600002 7302232 L xs M a1 a2 a3 i4 cc zz) : QW p l e room_1 s m #[Value.ref scr] below meth c (lw_Z below #[Value.ref scr] s) 9 D cA lo cc zz M 1012 [(0, .ref scr), (1, .ref a1), (2, .ref a2), (3, .ref a3), (4, .int i4)] [] := by
  unfold A_L_law_1012 at h
  refine q_aload_n C dL_law_1012 rfl (j := 1) rfl ?_
  refine q_aload_n C dL_law_1013 rfl (j := 0) rfl ?_
  refine q_iload C dL_law_1014 (j := 4) rfl ?_
  refine q_iconst (v := 1) C dL_law_1016 (by decide) ?_
  refine q_iadd C dL_law_1017 ?_
  refine q_sld hX hbl C h.1 dL_law_1018 ?_
  have h := h.2
  refine q_aload_n C dL_law_1019 rfl (j := 0) rfl ?_
  refine q_iload C dL_law_1020 (j := 4) rfl ?_
  refine q_iconst (v := 2) C dL_law_1022 (by decide) ?_
  refine q_iadd C dL_law_1023 ?_
  refine q_sld hX hbl C h.1 dL_law_1024 ?_
  have h := h.2
  refine q_aload_n C dL_law_1025 rfl (j := 0) rfl ?_
  refine q_iload C dL_law_1026 (j := 4) rfl ?_
  refine q_iconst (v := 3) C dL_law_1028 (by decide) ?_
  refine q_iadd C dL_law_1029 ?_
  refine q_sld hX hbl C h.1 dL_law_1030 ?_
  have h := h.2
  refine q_aload_n C dL_law_1031 rfl (j := 0) rfl ?_
  refine q_iload C dL_law_1032 (j := 4) rfl ?_
  refine q_iconst (v := 4) C dL_law_1034 (by decide) ?_
  refine q_iadd C dL_law_1035 ?_
  refine q_sld hX hbl C h.1 dL_law_1036 ?_
  have h := h.2
  refine q_aload_n C dL_law_1037 rfl (j := 3) rfl ?_
  obtain ⟨dc_93, ds_93, hcz, h⟩ := h
  refine q_xw (q_runSW (As := [.ref a1, .int (xs (i4 + 1).toNatClampNeg), .int (xs (i4 + 2).toNatClampNeg), .int (xs (i4 + 3).toNatClampNeg), .int (xs (i4 + 4).toNatClampNeg), .ref a3]) (st := []) C (c_L_draw l hl D cA lo h) (vx_cwSW 6 C.2.2.2.2.1 gL_law_L_draw rfl rfl rfl (by decide +kernel) ⟨Nat.le_of_ble_eq_true rfl, Nat.le_of_ble_eq_true rfl⟩) rfl rfl (Nat.le_of_ble_eq_true rfl) dL_law_1038 hcz) (fun E M_x h => ?_) (fun r_91 M_92 h => ?_)
  · exact h.elim
  · refine q_istore (lv' := [(5, .int r_91), (0, .ref scr), (1, .ref a1), (2, .ref a2), (3, .ref a3), (4, .int i4)]) C dL_law_1041 (by decide) rfl ?_
    refine q_aload_n C dL_law_1043 rfl (j := 3) rfl ?_
    refine q_aload_n C dL_law_1044 rfl (j := 1) rfl ?_
    refine q_iload C dL_law_1045 (j := 5) rfl ?_
    refine q_iconst (v := 1) C dL_law_1047 (by decide) ?_
    refine q_iadd C dL_law_1048 ?_
    refine q_sld hX hbl C h.1 dL_law_1049 ?_
    have h := h.2
    refine q_aload_n C dL_law_1050 rfl (j := 1) rfl ?_
    refine q_iload C dL_law_1051 (j := 5) rfl ?_
    refine q_iconst (v := 2) C dL_law_1053 (by decide) ?_
    refine q_iadd C dL_law_1054 ?_
    refine q_sld hX hbl C h.1 dL_law_1055 ?_
    have h := h.2
    refine q_aload_n C dL_law_1056 rfl (j := 1) rfl ?_
    refine q_iload C dL_law_1057 (j := 5) rfl ?_
    refine q_iconst (v := 3) C dL_law_1059 (by decide) ?_
    refine q_iadd C dL_law_1060 ?_
    refine q_sld hX hbl C h.1 dL_law_1061 ?_
    have h := h.2
    refine q_aload_n C dL_law_1062 rfl (j := 1) rfl ?_
    refine q_iload C dL_law_1063 (j := 5) rfl ?_
    refine q_iconst (v := 4) C dL_law_1065 (by decide) ?_
    refine q_iadd C dL_law_1066 ?_
    refine q_sld hX hbl C h.1 dL_law_1067 ?_
    have h := h.2
    obtain ⟨dc_96, ds_96, hcz, h⟩ := h
    refine q_ci (q_runV (As := [.int (xs (i4 + 1).toNatClampNeg), .int (xs (i4 + 2).toNatClampNeg), .int (xs (i4 + 3).toNatClampNeg), .int (xs (i4 + 4).toNatClampNeg)]) (st := []) C (c_X9_draw l D cA lo h.2) (cwV 4 C.2.2.2.2.1 gL_law_X9_draw rfl rfl rfl (by decide +kernel) ⟨Nat.le_of_ble_eq_true rfl, Nat.le_of_ble_eq_true rfl⟩) h.1 (by decide) rfl rfl rfl (Nat.le_of_ble_eq_true rfl) dL_law_1068 hcz) (fun r_94 M_95 h => ?_)
    refine q_istore (lv' := [(6, .int r_94), (5, .int r_91), (0, .ref scr), (1, .ref a1), (2, .ref a2), (3, .ref a3), (4, .int i4)]) C dL_law_1071 (by decide) rfl ?_
    refine q_aload_n C dL_law_1073 rfl (j := 4) rfl ?_
    have hcz := h.1
    have h := h.2
    refine q_ci (q_runV (As := []) (st := []) C (c_X9_thrown l D cA lo h.2) (cwV 0 C.2.2.2.2.1 gL_law_X9_thrown rfl rfl rfl (by decide +kernel) ⟨Nat.le_of_ble_eq_true rfl, Nat.le_of_ble_eq_true rfl⟩) h.1 (by decide) rfl rfl rfl (Nat.le_of_ble_eq_true rfl) dL_law_1074 ⟨Nat.le_trans (Nat.le_of_eq (Nat.add_zero _)) hcz.1, Nat.le_trans (Nat.le_of_eq (Nat.add_zero _)) hcz.2⟩) (fun r_97 M_z h => ?_)
    refine q_mem h.1 ?_
    have h := h.2
    refine q_iload C dL_law_1077 (j := 1) rfl ?_
    refine q_icmp_eq (tgt := 1084) C dL_law_1079 (by decide) (fun z => ?_) (fun z => ?_)
    · have h := h.1 z
      refine q_iload C dL_law_1084 (j := 1) rfl ?_
      refine q_if_ne (tgt := 1101) C dL_law_1086 (by decide) (fun z => ?_) (fun z => ?_)
      · have h := h.1 z
        refine q_goto (tgt := 2087) C dL_law_1101 (by decide) ?_
        refine q_iinc (v := (i4 + 5)) (lv' := [(4, .int (i4 + 5)), (6, .int r_94), (5, .int r_91), (0, .ref scr), (1, .ref a1), (2, .ref a2), (3, .ref a3)]) C dL_law_2087 (j := 6) rfl rfl (by decide) rfl ?_
        refine q_goto (tgt := 23) C dL_law_2090 (by decide) ?_
        exact q_sub [3, 4, 5, 6, 0] rfl h
      · have h := h.2 z
        refine q_aload_n C dL_law_1089 rfl (j := 5) rfl ?_
        refine q_iconst (v := 0) C dL_law_1090 (by decide) ?_
        obtain ⟨n_98, z1, z2, h⟩ := h
        refine q_lald C z1 z2 dL_law_1091 ?_
        refine q_iload C dL_law_1092 (j := 0) rfl ?_
        refine q_i2l C dL_law_1094 ?_
        refine q_lcmp C dL_law_1095 ?_
        refine q_if_eq (tgt := 1101) C dL_law_1096 (by decide) (fun z => ?_) (fun z => ?_)
        · have h := h.1 z
          refine q_goto (tgt := 2087) C dL_law_1101 (by decide) ?_
          refine q_iinc (v := (i4 + 5)) (lv' := [(4, .int (i4 + 5)), (6, .int r_94), (5, .int r_91), (0, .ref scr), (1, .ref a1), (2, .ref a2), (3, .ref a3)]) C dL_law_2087 (j := 6) rfl rfl (by decide) rfl ?_
          refine q_goto (tgt := 23) C dL_law_2090 (by decide) ?_
          exact q_sub [3, 4, 5, 6, 0] rfl h
        · have h := h.2 z
          refine q_iconst (v := 0) C dL_law_1099 (by decide) ?_
          exact h.elim
    · have h := h.2 z
      refine q_iconst (v := 0) C dL_law_1082 (by decide) ?_
      exact h.elim
set_option maxRecDepth 100000 in
set_option maxHeartbeats 8000000 in
theorem arm_L_law_1104 {p : Program} {l : Launch} {e : Env} {s : State} {m : MethodId} {below : List Frame} {meth : Method} {c : Code} {D : va_G} {cA : Nat → ClassId} {lo scr L : Nat} {xs : Nat → Int32} (C : Cx p s m #[Value.ref scr] c cL_law 9 RL wsL_law D cA lo) (hl : l.stackTraces = false) (hX : va_X scr L xs s s.heap) (hbl : scr < s.heap.size ∧ lo = s.heap.size) (hr : meth.sig.returnType = ret) (hlk : meth.locks = false) (M : Mm) (a1 : Nat) (a2 : Nat) (a3 : Nat) (i4 : Int32) (cc zz : Nat) (h : A_L_law_1104 (fun (a1 : Nat) (a2 : Nat) (a3 : Nat) (i4 : Int32) (M : Mm) (cc zz : Nat) => QW p l e room_1 s m #[Value.ref scr] below meth c (lw_Z below #[Value.ref scr] s) 9 D cA lo cc zz M 23 [(0, .ref scr), (1, .ref a1), (2, .ref a2), (3, .ref a3), (4, .int i4)] []) 600002 7302232 L xs M a1 a2 a3 i4 cc zz) : QW p l e room_1 s m #[Value.ref scr] below meth c (lw_Z below #[Value.ref scr] s) 9 D cA lo cc zz M 1104 [(0, .ref scr), (1, .ref a1), (2, .ref a2), (3, .ref a3), (4, .int i4)] [] := by
  unfold A_L_law_1104 at h
  refine q_aload_n C dL_law_1104 rfl (j := 1) rfl ?_
  refine q_aload_n C dL_law_1105 rfl (j := 0) rfl ?_
  refine q_iload C dL_law_1106 (j := 4) rfl ?_
  refine q_iconst (v := 1) C dL_law_1108 (by decide) ?_
  refine q_iadd C dL_law_1109 ?_
  refine q_sld hX hbl C h.1 dL_law_1110 ?_
  have h := h.2
  refine q_aload_n C dL_law_1111 rfl (j := 0) rfl ?_
  refine q_iload C dL_law_1112 (j := 4) rfl ?_
  refine q_iconst (v := 2) C dL_law_1114 (by decide) ?_
  refine q_iadd C dL_law_1115 ?_
  refine q_sld hX hbl C h.1 dL_law_1116 ?_
  have h := h.2
  refine q_aload_n C dL_law_1117 rfl (j := 3) rfl ?_
  obtain ⟨dc_101, ds_101, hcz, h⟩ := h
  refine q_xw (q_runSW (As := [.ref a1, .int (xs (i4 + 1).toNatClampNeg), .int (xs (i4 + 2).toNatClampNeg), .ref a3]) (st := []) C (c_L_fill l hl D cA lo h) (vx_cwSW 4 C.2.2.2.2.1 gL_law_L_fill rfl rfl rfl (by decide +kernel) ⟨Nat.le_of_ble_eq_true rfl, Nat.le_of_ble_eq_true rfl⟩) rfl rfl (Nat.le_of_ble_eq_true rfl) dL_law_1118 hcz) (fun E M_x h => ?_) (fun r_99 M_100 h => ?_)
  · exact h.elim
  · refine q_istore (lv' := [(5, .int r_99), (0, .ref scr), (1, .ref a1), (2, .ref a2), (3, .ref a3), (4, .int i4)]) C dL_law_1121 (by decide) rfl ?_
    refine q_aload_n C dL_law_1123 rfl (j := 3) rfl ?_
    refine q_aload_n C dL_law_1124 rfl (j := 1) rfl ?_
    refine q_iload C dL_law_1125 (j := 5) rfl ?_
    refine q_iconst (v := 1) C dL_law_1127 (by decide) ?_
    refine q_iadd C dL_law_1128 ?_
    refine q_sld hX hbl C h.1 dL_law_1129 ?_
    have h := h.2
    refine q_aload_n C dL_law_1130 rfl (j := 1) rfl ?_
    refine q_iload C dL_law_1131 (j := 5) rfl ?_
    refine q_iconst (v := 2) C dL_law_1133 (by decide) ?_
    refine q_iadd C dL_law_1134 ?_
    refine q_sld hX hbl C h.1 dL_law_1135 ?_
    have h := h.2
    have hcz := h.1
    have h := h.2
    refine q_ci (q_runV (As := [.int (xs (i4 + 1).toNatClampNeg), .int (xs (i4 + 2).toNatClampNeg)]) (st := []) C (c_X9_fill l D cA lo h.2) (cwV 2 C.2.2.2.2.1 gL_law_X9_fill rfl rfl rfl (by decide +kernel) ⟨Nat.le_of_ble_eq_true rfl, Nat.le_of_ble_eq_true rfl⟩) h.1 (by decide) rfl rfl rfl (Nat.le_of_ble_eq_true rfl) dL_law_1136 ⟨Nat.le_trans (Nat.le_of_eq (Nat.add_zero _)) hcz.1, Nat.le_trans (Nat.le_of_eq (Nat.add_zero _)) hcz.2⟩) (fun r_102 M_103 h => ?_)
    refine q_istore (lv' := [(6, .int r_102), (5, .int r_99), (0, .ref scr), (1, .ref a1), (2, .ref a2), (3, .ref a3), (4, .int i4)]) C dL_law_1139 (by decide) rfl ?_
    refine q_aload_n C dL_law_1141 rfl (j := 4) rfl ?_
    have hcz := h.1
    have h := h.2
    refine q_ci (q_runV (As := []) (st := []) C (c_X9_thrown l D cA lo h.2) (cwV 0 C.2.2.2.2.1 gL_law_X9_thrown rfl rfl rfl (by decide +kernel) ⟨Nat.le_of_ble_eq_true rfl, Nat.le_of_ble_eq_true rfl⟩) h.1 (by decide) rfl rfl rfl (Nat.le_of_ble_eq_true rfl) dL_law_1142 ⟨Nat.le_trans (Nat.le_of_eq (Nat.add_zero _)) hcz.1, Nat.le_trans (Nat.le_of_eq (Nat.add_zero _)) hcz.2⟩) (fun r_104 M_z h => ?_)
    refine q_mem h.1 ?_
    have h := h.2
    refine q_iload C dL_law_1145 (j := 1) rfl ?_
    refine q_icmp_eq (tgt := 1152) C dL_law_1147 (by decide) (fun z => ?_) (fun z => ?_)
    · have h := h.1 z
      refine q_iload C dL_law_1152 (j := 1) rfl ?_
      refine q_if_ne (tgt := 1169) C dL_law_1154 (by decide) (fun z => ?_) (fun z => ?_)
      · have h := h.1 z
        refine q_goto (tgt := 2087) C dL_law_1169 (by decide) ?_
        refine q_iinc (v := (i4 + 5)) (lv' := [(4, .int (i4 + 5)), (6, .int r_102), (5, .int r_99), (0, .ref scr), (1, .ref a1), (2, .ref a2), (3, .ref a3)]) C dL_law_2087 (j := 6) rfl rfl (by decide) rfl ?_
        refine q_goto (tgt := 23) C dL_law_2090 (by decide) ?_
        exact q_sub [3, 4, 5, 6, 0] rfl h
      · have h := h.2 z
        refine q_aload_n C dL_law_1157 rfl (j := 5) rfl ?_
        refine q_iconst (v := 0) C dL_law_1158 (by decide) ?_
        obtain ⟨n_105, z1, z2, h⟩ := h
        refine q_lald C z1 z2 dL_law_1159 ?_
        refine q_iload C dL_law_1160 (j := 0) rfl ?_
        refine q_i2l C dL_law_1162 ?_
        refine q_lcmp C dL_law_1163 ?_
        refine q_if_eq (tgt := 1169) C dL_law_1164 (by decide) (fun z => ?_) (fun z => ?_)
        · have h := h.1 z
          refine q_goto (tgt := 2087) C dL_law_1169 (by decide) ?_
          refine q_iinc (v := (i4 + 5)) (lv' := [(4, .int (i4 + 5)), (6, .int r_102), (5, .int r_99), (0, .ref scr), (1, .ref a1), (2, .ref a2), (3, .ref a3)]) C dL_law_2087 (j := 6) rfl rfl (by decide) rfl ?_
          refine q_goto (tgt := 23) C dL_law_2090 (by decide) ?_
          exact q_sub [3, 4, 5, 6, 0] rfl h
        · have h := h.2 z
          refine q_iconst (v := 0) C dL_law_1167 (by decide) ?_
          exact h.elim
    · have h := h.2 z
      refine q_iconst (v := 0) C dL_law_1150 (by decide) ?_
      exact h.elim
set_option maxRecDepth 100000 in
set_option maxHeartbeats 8000000 in
theorem arm_L_law_1172 {p : Program} {l : Launch} {e : Env} {s : State} {m : MethodId} {below : List Frame} {meth : Method} {c : Code} {D : va_G} {cA : Nat → ClassId} {lo scr L : Nat} {xs : Nat → Int32} (C : Cx p s m #[Value.ref scr] c cL_law 9 RL wsL_law D cA lo) (hl : l.stackTraces = false) (hX : va_X scr L xs s s.heap) (hbl : scr < s.heap.size ∧ lo = s.heap.size) (hr : meth.sig.returnType = ret) (hlk : meth.locks = false) (M : Mm) (a1 : Nat) (a2 : Nat) (a3 : Nat) (i4 : Int32) (cc zz : Nat) (h : A_L_law_1172 (fun (a1 : Nat) (a2 : Nat) (a3 : Nat) (i4 : Int32) (M : Mm) (cc zz : Nat) => QW p l e room_1 s m #[Value.ref scr] below meth c (lw_Z below #[Value.ref scr] s) 9 D cA lo cc zz M 23 [(0, .ref scr), (1, .ref a1), (2, .ref a2), (3, .ref a3), (4, .int i4)] []) 600002 7302232 L xs M a1 a2 a3 i4 cc zz) : QW p l e room_1 s m #[Value.ref scr] below meth c (lw_Z below #[Value.ref scr] s) 9 D cA lo cc zz M 1172 [(0, .ref scr), (1, .ref a1), (2, .ref a2), (3, .ref a3), (4, .int i4)] [] := by
  unfold A_L_law_1172 at h
  refine q_aload_n C dL_law_1172 rfl (j := 1) rfl ?_
  refine q_aload_n C dL_law_1173 rfl (j := 3) rfl ?_
  obtain ⟨dc_108, ds_108, hcz, h⟩ := h
  refine q_xw (q_runSW (As := [.ref a1, .ref a3]) (st := []) C (c_L_quarters l hl D cA lo h) (vx_cwSW 2 C.2.2.2.2.1 gL_law_L_quarters rfl rfl rfl (by decide +kernel) ⟨Nat.le_of_ble_eq_true rfl, Nat.le_of_ble_eq_true rfl⟩) rfl rfl (Nat.le_of_ble_eq_true rfl) dL_law_1174 hcz) (fun E M_x h => ?_) (fun r_106 M_107 h => ?_)
  · exact h.elim
  · refine q_istore (lv' := [(5, .int r_106), (0, .ref scr), (1, .ref a1), (2, .ref a2), (3, .ref a3), (4, .int i4)]) C dL_law_1177 (by decide) rfl ?_
    refine q_aload_n C dL_law_1179 rfl (j := 3) rfl ?_
    obtain ⟨dc_111, ds_111, hcz, h⟩ := h
    refine q_ci (q_runV (As := []) (st := []) C (c_X9_quarters l D cA lo h.2) (cwV 0 C.2.2.2.2.1 gL_law_X9_quarters rfl rfl rfl (by decide +kernel) ⟨Nat.le_of_ble_eq_true rfl, Nat.le_of_ble_eq_true rfl⟩) h.1 (by decide) rfl rfl rfl (Nat.le_of_ble_eq_true rfl) dL_law_1180 hcz) (fun r_109 M_110 h => ?_)
    refine q_istore (lv' := [(6, .int r_109), (5, .int r_106), (0, .ref scr), (1, .ref a1), (2, .ref a2), (3, .ref a3), (4, .int i4)]) C dL_law_1183 (by decide) rfl ?_
    refine q_aload_n C dL_law_1185 rfl (j := 4) rfl ?_
    have hcz := h.1
    have h := h.2
    refine q_ci (q_runV (As := []) (st := []) C (c_X9_thrown l D cA lo h.2) (cwV 0 C.2.2.2.2.1 gL_law_X9_thrown rfl rfl rfl (by decide +kernel) ⟨Nat.le_of_ble_eq_true rfl, Nat.le_of_ble_eq_true rfl⟩) h.1 (by decide) rfl rfl rfl (Nat.le_of_ble_eq_true rfl) dL_law_1186 ⟨Nat.le_trans (Nat.le_of_eq (Nat.add_zero _)) hcz.1, Nat.le_trans (Nat.le_of_eq (Nat.add_zero _)) hcz.2⟩) (fun r_112 M_z h => ?_)
    refine q_mem h.1 ?_
    have h := h.2
    refine q_iload C dL_law_1189 (j := 1) rfl ?_
    refine q_icmp_eq (tgt := 1196) C dL_law_1191 (by decide) (fun z => ?_) (fun z => ?_)
    · have h := h.1 z
      refine q_iload C dL_law_1196 (j := 1) rfl ?_
      refine q_if_ne (tgt := 1213) C dL_law_1198 (by decide) (fun z => ?_) (fun z => ?_)
      · have h := h.1 z
        refine q_goto (tgt := 2087) C dL_law_1213 (by decide) ?_
        refine q_iinc (v := (i4 + 5)) (lv' := [(4, .int (i4 + 5)), (6, .int r_109), (5, .int r_106), (0, .ref scr), (1, .ref a1), (2, .ref a2), (3, .ref a3)]) C dL_law_2087 (j := 6) rfl rfl (by decide) rfl ?_
        refine q_goto (tgt := 23) C dL_law_2090 (by decide) ?_
        exact q_sub [3, 4, 5, 6, 0] rfl h
      · have h := h.2 z
        refine q_aload_n C dL_law_1201 rfl (j := 5) rfl ?_
        refine q_iconst (v := 0) C dL_law_1202 (by decide) ?_
        obtain ⟨n_113, z1, z2, h⟩ := h
        refine q_lald C z1 z2 dL_law_1203 ?_
        refine q_iload C dL_law_1204 (j := 0) rfl ?_
        refine q_i2l C dL_law_1206 ?_
        refine q_lcmp C dL_law_1207 ?_
        refine q_if_eq (tgt := 1213) C dL_law_1208 (by decide) (fun z => ?_) (fun z => ?_)
        · have h := h.1 z
          refine q_goto (tgt := 2087) C dL_law_1213 (by decide) ?_
          refine q_iinc (v := (i4 + 5)) (lv' := [(4, .int (i4 + 5)), (6, .int r_109), (5, .int r_106), (0, .ref scr), (1, .ref a1), (2, .ref a2), (3, .ref a3)]) C dL_law_2087 (j := 6) rfl rfl (by decide) rfl ?_
          refine q_goto (tgt := 23) C dL_law_2090 (by decide) ?_
          exact q_sub [3, 4, 5, 6, 0] rfl h
        · have h := h.2 z
          refine q_iconst (v := 0) C dL_law_1211 (by decide) ?_
          exact h.elim
    · have h := h.2 z
      refine q_iconst (v := 0) C dL_law_1194 (by decide) ?_
      exact h.elim
set_option maxRecDepth 100000 in
set_option maxHeartbeats 8000000 in
theorem arm_L_law_1216 {p : Program} {l : Launch} {e : Env} {s : State} {m : MethodId} {below : List Frame} {meth : Method} {c : Code} {D : va_G} {cA : Nat → ClassId} {lo scr L : Nat} {xs : Nat → Int32} (C : Cx p s m #[Value.ref scr] c cL_law 9 RL wsL_law D cA lo) (hl : l.stackTraces = false) (hX : va_X scr L xs s s.heap) (hbl : scr < s.heap.size ∧ lo = s.heap.size) (hr : meth.sig.returnType = ret) (hlk : meth.locks = false) (M : Mm) (a1 : Nat) (a2 : Nat) (a3 : Nat) (i4 : Int32) (cc zz : Nat) (h : A_L_law_1216 (fun (a1 : Nat) (a2 : Nat) (a3 : Nat) (i4 : Int32) (M : Mm) (cc zz : Nat) => QW p l e room_1 s m #[Value.ref scr] below meth c (lw_Z below #[Value.ref scr] s) 9 D cA lo cc zz M 23 [(0, .ref scr), (1, .ref a1), (2, .ref a2), (3, .ref a3), (4, .int i4)] []) 600002 7302232 L xs M a1 a2 a3 i4 cc zz) : QW p l e room_1 s m #[Value.ref scr] below meth c (lw_Z below #[Value.ref scr] s) 9 D cA lo cc zz M 1216 [(0, .ref scr), (1, .ref a1), (2, .ref a2), (3, .ref a3), (4, .int i4)] [] := by
  unfold A_L_law_1216 at h
  refine q_aload_n C dL_law_1216 rfl (j := 1) rfl ?_
  have hcz := h.1
  have h := h.2
  refine q_ci (q_runV (As := []) (st := []) C (c_X8_smooth l D cA lo h.2) (cwV 0 C.2.2.2.2.1 gL_law_X8_smooth rfl rfl rfl (by decide +kernel) ⟨Nat.le_of_ble_eq_true rfl, Nat.le_of_ble_eq_true rfl⟩) h.1 (by decide) rfl rfl rfl (Nat.le_of_ble_eq_true rfl) dL_law_1217 ⟨Nat.le_trans (Nat.le_of_eq (Nat.add_zero _)) hcz.1, Nat.le_trans (Nat.le_of_eq (Nat.add_zero _)) hcz.2⟩) (fun r_114 M_115 h => ?_)
  refine q_aload_n C dL_law_1220 rfl (j := 2) rfl ?_
  obtain ⟨dc_118, ds_118, hcz, h⟩ := h
  refine q_ci (q_runV (As := []) (st := [.int r_114]) C (c_X9_smooth l D cA lo h.2) (cwV 0 C.2.2.2.2.1 gL_law_X9_smooth rfl rfl rfl (by decide +kernel) ⟨Nat.le_of_ble_eq_true rfl, Nat.le_of_ble_eq_true rfl⟩) h.1 (by decide) rfl rfl rfl (Nat.le_of_ble_eq_true rfl) dL_law_1221 hcz) (fun r_116 M_117 h => ?_)
  refine q_icmp_eq (tgt := 2087) C dL_law_1224 (by decide) (fun z => ?_) (fun z => ?_)
  · have h := h.1 z
    refine q_iinc (v := (i4 + 5)) (lv' := [(4, .int (i4 + 5)), (0, .ref scr), (1, .ref a1), (2, .ref a2), (3, .ref a3)]) C dL_law_2087 (j := 4) rfl rfl (by decide) rfl ?_
    refine q_goto (tgt := 23) C dL_law_2090 (by decide) ?_
    exact q_sub [1, 2, 3, 4, 0] rfl h
  · have h := h.2 z
    refine q_iconst (v := 0) C dL_law_1227 (by decide) ?_
    exact h.elim
set_option maxRecDepth 100000 in
set_option maxHeartbeats 8000000 in
theorem arm_L_law_1229 {p : Program} {l : Launch} {e : Env} {s : State} {m : MethodId} {below : List Frame} {meth : Method} {c : Code} {D : va_G} {cA : Nat → ClassId} {lo scr L : Nat} {xs : Nat → Int32} (C : Cx p s m #[Value.ref scr] c cL_law 9 RL wsL_law D cA lo) (hl : l.stackTraces = false) (hX : va_X scr L xs s s.heap) (hbl : scr < s.heap.size ∧ lo = s.heap.size) (hr : meth.sig.returnType = ret) (hlk : meth.locks = false) (M : Mm) (a1 : Nat) (a2 : Nat) (a3 : Nat) (i4 : Int32) (cc zz : Nat) (h : A_L_law_1229 (fun (a1 : Nat) (a2 : Nat) (a3 : Nat) (i4 : Int32) (M : Mm) (cc zz : Nat) => QW p l e room_1 s m #[Value.ref scr] below meth c (lw_Z below #[Value.ref scr] s) 9 D cA lo cc zz M 23 [(0, .ref scr), (1, .ref a1), (2, .ref a2), (3, .ref a3), (4, .int i4)] []) 600002 7302232 L xs M a1 a2 a3 i4 cc zz) : QW p l e room_1 s m #[Value.ref scr] below meth c (lw_Z below #[Value.ref scr] s) 9 D cA lo cc zz M 1229 [(0, .ref scr), (1, .ref a1), (2, .ref a2), (3, .ref a3), (4, .int i4)] [] := by
  unfold A_L_law_1229 at h
  refine q_aload_n C dL_law_1229 rfl (j := 1) rfl ?_
  have hcz := h.1
  have h := h.2
  refine q_ci (q_runV (As := []) (st := []) C (c_X8_turn l D cA lo h.2) (cwV 0 C.2.2.2.2.1 gL_law_X8_turn rfl rfl rfl (by decide +kernel) ⟨Nat.le_of_ble_eq_true rfl, Nat.le_of_ble_eq_true rfl⟩) h.1 (by decide) rfl rfl rfl (Nat.le_of_ble_eq_true rfl) dL_law_1230 ⟨Nat.le_trans (Nat.le_of_eq (Nat.add_zero _)) hcz.1, Nat.le_trans (Nat.le_of_eq (Nat.add_zero _)) hcz.2⟩) (fun r_119 M_120 h => ?_)
  refine q_aload_n C dL_law_1233 rfl (j := 2) rfl ?_
  have hcz := h.1
  have h := h.2
  refine q_ci (q_runV (As := []) (st := [.int r_119]) C (c_X9_turn l D cA lo h.2) (cwV 0 C.2.2.2.2.1 gL_law_X9_turn rfl rfl rfl (by decide +kernel) ⟨Nat.le_of_ble_eq_true rfl, Nat.le_of_ble_eq_true rfl⟩) h.1 (by decide) rfl rfl rfl (Nat.le_of_ble_eq_true rfl) dL_law_1234 ⟨Nat.le_trans (Nat.le_of_eq (Nat.add_zero _)) hcz.1, Nat.le_trans (Nat.le_of_eq (Nat.add_zero _)) hcz.2⟩) (fun r_121 M_122 h => ?_)
  refine q_icmp_eq (tgt := 2087) C dL_law_1237 (by decide) (fun z => ?_) (fun z => ?_)
  · have h := h.1 z
    refine q_iinc (v := (i4 + 5)) (lv' := [(4, .int (i4 + 5)), (0, .ref scr), (1, .ref a1), (2, .ref a2), (3, .ref a3)]) C dL_law_2087 (j := 4) rfl rfl (by decide) rfl ?_
    refine q_goto (tgt := 23) C dL_law_2090 (by decide) ?_
    exact q_sub [1, 2, 3, 4, 0] rfl h
  · have h := h.2 z
    refine q_iconst (v := 0) C dL_law_1240 (by decide) ?_
    exact h.elim
set_option maxRecDepth 100000 in
set_option maxHeartbeats 8000000 in
theorem arm_L_law_1242 {p : Program} {l : Launch} {e : Env} {s : State} {m : MethodId} {below : List Frame} {meth : Method} {c : Code} {D : va_G} {cA : Nat → ClassId} {lo scr L : Nat} {xs : Nat → Int32} (C : Cx p s m #[Value.ref scr] c cL_law 9 RL wsL_law D cA lo) (hl : l.stackTraces = false) (hX : va_X scr L xs s s.heap) (hbl : scr < s.heap.size ∧ lo = s.heap.size) (hr : meth.sig.returnType = ret) (hlk : meth.locks = false) (M : Mm) (a1 : Nat) (a2 : Nat) (a3 : Nat) (i4 : Int32) (cc zz : Nat) (h : A_L_law_1242 (fun (a1 : Nat) (a2 : Nat) (a3 : Nat) (i4 : Int32) (M : Mm) (cc zz : Nat) => QW p l e room_1 s m #[Value.ref scr] below meth c (lw_Z below #[Value.ref scr] s) 9 D cA lo cc zz M 23 [(0, .ref scr), (1, .ref a1), (2, .ref a2), (3, .ref a3), (4, .int i4)] []) 600002 7302232 L xs M a1 a2 a3 i4 cc zz) : QW p l e room_1 s m #[Value.ref scr] below meth c (lw_Z below #[Value.ref scr] s) 9 D cA lo cc zz M 1242 [(0, .ref scr), (1, .ref a1), (2, .ref a2), (3, .ref a3), (4, .int i4)] [] := by
  unfold A_L_law_1242 at h
  refine q_aload_n C dL_law_1242 rfl (j := 1) rfl ?_
  have hcz := h.1
  have h := h.2
  refine q_ci (q_runV (As := []) (st := []) C (c_X8_points l D cA lo h.2) (cwV 0 C.2.2.2.2.1 gL_law_X8_points rfl rfl rfl (by decide +kernel) ⟨Nat.le_of_ble_eq_true rfl, Nat.le_of_ble_eq_true rfl⟩) h.1 (by decide) rfl rfl rfl (Nat.le_of_ble_eq_true rfl) dL_law_1243 ⟨Nat.le_trans (Nat.le_of_eq (Nat.add_zero _)) hcz.1, Nat.le_trans (Nat.le_of_eq (Nat.add_zero _)) hcz.2⟩) (fun r_123 M_z h => ?_)
  refine q_mem h.1 ?_
  have h := h.2
  refine q_aload_n C dL_law_1246 rfl (j := 2) rfl ?_
  have hcz := h.1
  have h := h.2
  refine q_ci (q_runV (As := []) (st := [.int r_123]) C (c_X9_points l D cA lo h.2) (cwV 0 C.2.2.2.2.1 gL_law_X9_points rfl rfl rfl (by decide +kernel) ⟨Nat.le_of_ble_eq_true rfl, Nat.le_of_ble_eq_true rfl⟩) h.1 (by decide) rfl rfl rfl (Nat.le_of_ble_eq_true rfl) dL_law_1247 ⟨Nat.le_trans (Nat.le_of_eq (Nat.add_zero _)) hcz.1, Nat.le_trans (Nat.le_of_eq (Nat.add_zero _)) hcz.2⟩) (fun r_124 M_125 h => ?_)
  refine q_icmp_eq (tgt := 2087) C dL_law_1250 (by decide) (fun z => ?_) (fun z => ?_)
  · have h := h.1 z
    refine q_iinc (v := (i4 + 5)) (lv' := [(4, .int (i4 + 5)), (0, .ref scr), (1, .ref a1), (2, .ref a2), (3, .ref a3)]) C dL_law_2087 (j := 4) rfl rfl (by decide) rfl ?_
    refine q_goto (tgt := 23) C dL_law_2090 (by decide) ?_
    exact q_sub [1, 2, 3, 4, 0] rfl h
  · have h := h.2 z
    refine q_iconst (v := 0) C dL_law_1253 (by decide) ?_
    exact h.elim
set_option maxRecDepth 100000 in
set_option maxHeartbeats 8000000 in
theorem arm_L_law_1255 {p : Program} {l : Launch} {e : Env} {s : State} {m : MethodId} {below : List Frame} {meth : Method} {c : Code} {D : va_G} {cA : Nat → ClassId} {lo scr L : Nat} {xs : Nat → Int32} (C : Cx p s m #[Value.ref scr] c cL_law 9 RL wsL_law D cA lo) (hl : l.stackTraces = false) (hX : va_X scr L xs s s.heap) (hbl : scr < s.heap.size ∧ lo = s.heap.size) (hr : meth.sig.returnType = ret) (hlk : meth.locks = false) (M : Mm) (a1 : Nat) (a2 : Nat) (a3 : Nat) (i4 : Int32) (cc zz : Nat) (h : A_L_law_1255 (fun (a1 : Nat) (a2 : Nat) (a3 : Nat) (i4 : Int32) (M : Mm) (cc zz : Nat) => QW p l e room_1 s m #[Value.ref scr] below meth c (lw_Z below #[Value.ref scr] s) 9 D cA lo cc zz M 23 [(0, .ref scr), (1, .ref a1), (2, .ref a2), (3, .ref a3), (4, .int i4)] []) 600002 7302232 L xs M a1 a2 a3 i4 cc zz) : QW p l e room_1 s m #[Value.ref scr] below meth c (lw_Z below #[Value.ref scr] s) 9 D cA lo cc zz M 1255 [(0, .ref scr), (1, .ref a1), (2, .ref a2), (3, .ref a3), (4, .int i4)] [] := by
  unfold A_L_law_1255 at h
  refine q_aload_n C dL_law_1255 rfl (j := 1) rfl ?_
  have hcz := h.1
  have h := h.2
  refine q_ci (q_runV (As := []) (st := []) C (c_X8_edges l D cA lo h.2) (cwV 0 C.2.2.2.2.1 gL_law_X8_edges rfl rfl rfl (by decide +kernel) ⟨Nat.le_of_ble_eq_true rfl, Nat.le_of_ble_eq_true rfl⟩) h.1 (by decide) rfl rfl rfl (Nat.le_of_ble_eq_true rfl) dL_law_1256 ⟨Nat.le_trans (Nat.le_of_eq (Nat.add_zero _)) hcz.1, Nat.le_trans (Nat.le_of_eq (Nat.add_zero _)) hcz.2⟩) (fun r_126 M_z h => ?_)
  refine q_mem h.1 ?_
  have h := h.2
  refine q_aload_n C dL_law_1259 rfl (j := 2) rfl ?_
  have hcz := h.1
  have h := h.2
  refine q_ci (q_runV (As := []) (st := [.int r_126]) C (c_X9_edges l D cA lo h.2) (cwV 0 C.2.2.2.2.1 gL_law_X9_edges rfl rfl rfl (by decide +kernel) ⟨Nat.le_of_ble_eq_true rfl, Nat.le_of_ble_eq_true rfl⟩) h.1 (by decide) rfl rfl rfl (Nat.le_of_ble_eq_true rfl) dL_law_1260 ⟨Nat.le_trans (Nat.le_of_eq (Nat.add_zero _)) hcz.1, Nat.le_trans (Nat.le_of_eq (Nat.add_zero _)) hcz.2⟩) (fun r_127 M_128 h => ?_)
  refine q_icmp_eq (tgt := 2087) C dL_law_1263 (by decide) (fun z => ?_) (fun z => ?_)
  · have h := h.1 z
    refine q_iinc (v := (i4 + 5)) (lv' := [(4, .int (i4 + 5)), (0, .ref scr), (1, .ref a1), (2, .ref a2), (3, .ref a3)]) C dL_law_2087 (j := 4) rfl rfl (by decide) rfl ?_
    refine q_goto (tgt := 23) C dL_law_2090 (by decide) ?_
    exact q_sub [1, 2, 3, 4, 0] rfl h
  · have h := h.2 z
    refine q_iconst (v := 0) C dL_law_1266 (by decide) ?_
    exact h.elim
set_option maxRecDepth 100000 in
set_option maxHeartbeats 8000000 in
theorem arm_L_law_1268 {p : Program} {l : Launch} {e : Env} {s : State} {m : MethodId} {below : List Frame} {meth : Method} {c : Code} {D : va_G} {cA : Nat → ClassId} {lo scr L : Nat} {xs : Nat → Int32} (C : Cx p s m #[Value.ref scr] c cL_law 9 RL wsL_law D cA lo) (hl : l.stackTraces = false) (hX : va_X scr L xs s s.heap) (hbl : scr < s.heap.size ∧ lo = s.heap.size) (hr : meth.sig.returnType = ret) (hlk : meth.locks = false) (M : Mm) (a1 : Nat) (a2 : Nat) (a3 : Nat) (i4 : Int32) (cc zz : Nat) (h : A_L_law_1268 (fun (a1 : Nat) (a2 : Nat) (a3 : Nat) (i4 : Int32) (M : Mm) (cc zz : Nat) => QW p l e room_1 s m #[Value.ref scr] below meth c (lw_Z below #[Value.ref scr] s) 9 D cA lo cc zz M 23 [(0, .ref scr), (1, .ref a1), (2, .ref a2), (3, .ref a3), (4, .int i4)] []) 600002 7302232 L xs M a1 a2 a3 i4 cc zz) : QW p l e room_1 s m #[Value.ref scr] below meth c (lw_Z below #[Value.ref scr] s) 9 D cA lo cc zz M 1268 [(0, .ref scr), (1, .ref a1), (2, .ref a2), (3, .ref a3), (4, .int i4)] [] := by
  unfold A_L_law_1268 at h
  refine q_aload_n C dL_law_1268 rfl (j := 1) rfl ?_
  have hcz := h.1
  have h := h.2
  refine q_ci (q_runV (As := []) (st := []) C (c_X8_faces l D cA lo h.2) (cwV 0 C.2.2.2.2.1 gL_law_X8_faces rfl rfl rfl (by decide +kernel) ⟨Nat.le_of_ble_eq_true rfl, Nat.le_of_ble_eq_true rfl⟩) h.1 (by decide) rfl rfl rfl (Nat.le_of_ble_eq_true rfl) dL_law_1269 ⟨Nat.le_trans (Nat.le_of_eq (Nat.add_zero _)) hcz.1, Nat.le_trans (Nat.le_of_eq (Nat.add_zero _)) hcz.2⟩) (fun r_129 M_z h => ?_)
  refine q_mem h.1 ?_
  have h := h.2
  refine q_aload_n C dL_law_1272 rfl (j := 2) rfl ?_
  have hcz := h.1
  have h := h.2
  refine q_ci (q_runV (As := []) (st := [.int r_129]) C (c_X9_faces l D cA lo h.2) (cwV 0 C.2.2.2.2.1 gL_law_X9_faces rfl rfl rfl (by decide +kernel) ⟨Nat.le_of_ble_eq_true rfl, Nat.le_of_ble_eq_true rfl⟩) h.1 (by decide) rfl rfl rfl (Nat.le_of_ble_eq_true rfl) dL_law_1273 ⟨Nat.le_trans (Nat.le_of_eq (Nat.add_zero _)) hcz.1, Nat.le_trans (Nat.le_of_eq (Nat.add_zero _)) hcz.2⟩) (fun r_130 M_131 h => ?_)
  refine q_icmp_eq (tgt := 2087) C dL_law_1276 (by decide) (fun z => ?_) (fun z => ?_)
  · have h := h.1 z
    refine q_iinc (v := (i4 + 5)) (lv' := [(4, .int (i4 + 5)), (0, .ref scr), (1, .ref a1), (2, .ref a2), (3, .ref a3)]) C dL_law_2087 (j := 4) rfl rfl (by decide) rfl ?_
    refine q_goto (tgt := 23) C dL_law_2090 (by decide) ?_
    exact q_sub [1, 2, 3, 4, 0] rfl h
  · have h := h.2 z
    refine q_iconst (v := 0) C dL_law_1279 (by decide) ?_
    exact h.elim
