theorem tX12_flag  {a1 : Int32} {μ : gM}    : zH (fX12_flag a1 μ) (fun v => v.toInt = 0 ∨ v.toInt = 1) := by
  unfold fX12_flag
  refine zH_eqc (rfl : a1.toInt = _) (iL (0) (0) rfl) (fun c_1e c_1 => ?_) (fun c_1e c_1 => ?_)
  · have q_2 : (0 : Int32).toInt = (0 : Int) := (iL (0) (0) rfl)
    exact zH_some (show (0 : Int32).toInt = 0 ∨ (0 : Int32).toInt = 1 from by have q_3 : (0 : Int32).toInt = (0 : Int) := (iL (0) (0) rfl); omega)
  · have q_4 : (1 : Int32).toInt = (1 : Int) := (iL (1) (1) rfl)
    exact zH_some (show (1 : Int32).toInt = 0 ∨ (1 : Int32).toInt = 1 from by have q_5 : (1 : Int32).toInt = (1 : Int) := (iL (1) (1) rfl); omega)
theorem tX12_isOf  {a1 : Int32} {a2 : Int32} {μ : gM}    : zH (fX12_isOf a1 a2 μ) (fun v => v.toInt = 0 ∨ v.toInt = 1) := by
  unfold fX12_isOf
  refine zH_eqc (rfl : ((a1 >>> (a2 &&& 31)) &&& (1 : Int32)).toInt = _) (iL (1) (1) rfl) (fun c_1e c_1 => ?_) (fun c_1e c_1 => ?_)
  · have q_2 : (1 : Int32).toInt = (1 : Int) := (iL (1) (1) rfl)
    exact zH_some (show (1 : Int32).toInt = 0 ∨ (1 : Int32).toInt = 1 from by have q_3 : (1 : Int32).toInt = (1 : Int) := (iL (1) (1) rfl); omega)
  · have q_4 : (0 : Int32).toInt = (0 : Int) := (iL (0) (0) rfl)
    exact zH_some (show (0 : Int32).toInt = 0 ∨ (0 : Int32).toInt = 1 from by have q_5 : (0 : Int32).toInt = (0 : Int) := (iL (0) (0) rfl); omega)
theorem tX12_greater  {a1 : Int32} {a2 : Int32} {μ : gM}    : zH (fX12_greater a1 a2 μ) (fun v => v.toInt = max a1.toInt a2.toInt) := by
  unfold fX12_greater
  refine zH_lec (rfl : a1.toInt = _) (rfl : a2.toInt = _) (fun c_1 => ?_) (fun c_1 => ?_)
  · exact zH_some (show a2.toInt = max a1.toInt a2.toInt from by have q_2 : (a2).toInt = a2.toInt := (rfl : a2.toInt = _); omega)
  · exact zH_some (show a1.toInt = max a1.toInt a2.toInt from by have q_3 : (a1).toInt = a1.toInt := (rfl : a1.toInt = _); omega)
theorem tX12_lesser  {a1 : Int32} {a2 : Int32} {μ : gM}    : zH (fX12_lesser a1 a2 μ) (fun v => v.toInt = min a1.toInt a2.toInt) := by
  unfold fX12_lesser
  refine zH_lec (rfl : a2.toInt = _) (rfl : a1.toInt = _) (fun c_1 => ?_) (fun c_1 => ?_)
  · exact zH_some (show a2.toInt = min a1.toInt a2.toInt from by have q_2 : (a2).toInt = a2.toInt := (rfl : a2.toInt = _); omega)
  · exact zH_some (show a1.toInt = min a1.toInt a2.toInt from by have q_3 : (a1).toInt = a1.toInt := (rfl : a1.toInt = _); omega)
theorem tX12_isOwn  {a1 : Int32} {μ : gM}    : zH (fX12_isOwn a1 μ) (fun v => v.toInt = 0 ∨ v.toInt = 1) := by
  unfold fX12_isOwn
  refine zH_eqc (rfl : a1.toInt = _) (iL (231045) (231045) rfl) (fun c_1e c_1 => ?_) (fun c_1e c_1 => ?_)
  · unfold fX12_isOwn_n67
    unfold fX12_isOwn_n72
    refine zH_eqc (iL (1) (1) rfl) (iL (0) (0) rfl) (fun c_2e c_2 => ?_) (fun c_2e c_2 => ?_)
    · refine zH_eqc (rfl : a1.toInt = _) (iL (21562475) (21562475) rfl) (fun c_3e c_3 => ?_) (fun c_3e c_3 => ?_)
      · have q_4 : (1 : Int32).toInt = (1 : Int) := (iL (1) (1) rfl)
        exact zH_some (show (1 : Int32).toInt = 0 ∨ (1 : Int32).toInt = 1 from by have q_5 : (1 : Int32).toInt = (1 : Int) := (iL (1) (1) rfl); omega)
      · refine zH_eqc (rfl : a1.toInt = _) (iL (89) (89) rfl) (fun c_6e c_6 => ?_) (fun c_6e c_6 => ?_)
        · have q_7 : (1 : Int32).toInt = (1 : Int) := (iL (1) (1) rfl)
          exact zH_some (show (1 : Int32).toInt = 0 ∨ (1 : Int32).toInt = 1 from by have q_8 : (1 : Int32).toInt = (1 : Int) := (iL (1) (1) rfl); omega)
        · refine zH_eqc (rfl : a1.toInt = _) (iL (398963) (398963) rfl) (fun c_9e c_9 => ?_) (fun c_9e c_9 => ?_)
          · have q_10 : (1 : Int32).toInt = (1 : Int) := (iL (1) (1) rfl)
            exact zH_some (show (1 : Int32).toInt = 0 ∨ (1 : Int32).toInt = 1 from by have q_11 : (1 : Int32).toInt = (1 : Int) := (iL (1) (1) rfl); omega)
          · refine zH_eqc (rfl : a1.toInt = _) (iL (52) (52) rfl) (fun c_12e c_12 => ?_) (fun c_12e c_12 => ?_)
            · have q_13 : (1 : Int32).toInt = (1 : Int) := (iL (1) (1) rfl)
              exact zH_some (show (1 : Int32).toInt = 0 ∨ (1 : Int32).toInt = 1 from by have q_14 : (1 : Int32).toInt = (1 : Int) := (iL (1) (1) rfl); omega)
            · refine zH_eqc (rfl : a1.toInt = _) (iL (688) (688) rfl) (fun c_15e c_15 => ?_) (fun c_15e c_15 => ?_)
              · have q_16 : (1 : Int32).toInt = (1 : Int) := (iL (1) (1) rfl)
                exact zH_some (show (1 : Int32).toInt = 0 ∨ (1 : Int32).toInt = 1 from by have q_17 : (1 : Int32).toInt = (1 : Int) := (iL (1) (1) rfl); omega)
              · refine zH_eqc (rfl : a1.toInt = _) (iL (147182) (147182) rfl) (fun c_18e c_18 => ?_) (fun c_18e c_18 => ?_)
                · have q_19 : (1 : Int32).toInt = (1 : Int) := (iL (1) (1) rfl)
                  exact zH_some (show (1 : Int32).toInt = 0 ∨ (1 : Int32).toInt = 1 from by have q_20 : (1 : Int32).toInt = (1 : Int) := (iL (1) (1) rfl); omega)
                · refine zH_eqc (rfl : a1.toInt = _) (iL (3764) (3764) rfl) (fun c_21e c_21 => ?_) (fun c_21e c_21 => ?_)
                  · have q_22 : (1 : Int32).toInt = (1 : Int) := (iL (1) (1) rfl)
                    exact zH_some (show (1 : Int32).toInt = 0 ∨ (1 : Int32).toInt = 1 from by have q_23 : (1 : Int32).toInt = (1 : Int) := (iL (1) (1) rfl); omega)
                  · refine zH_eqc (rfl : a1.toInt = _) (iL (431556) (431556) rfl) (fun c_24e c_24 => ?_) (fun c_24e c_24 => ?_)
                    · have q_25 : (1 : Int32).toInt = (1 : Int) := (iL (1) (1) rfl)
                      exact zH_some (show (1 : Int32).toInt = 0 ∨ (1 : Int32).toInt = 1 from by have q_26 : (1 : Int32).toInt = (1 : Int) := (iL (1) (1) rfl); omega)
                    · refine zH_eqc (rfl : a1.toInt = _) (iL (20459828) (20459828) rfl) (fun c_27e c_27 => ?_) (fun c_27e c_27 => ?_)
                      · have q_28 : (1 : Int32).toInt = (1 : Int) := (iL (1) (1) rfl)
                        exact zH_some (show (1 : Int32).toInt = 0 ∨ (1 : Int32).toInt = 1 from by have q_29 : (1 : Int32).toInt = (1 : Int) := (iL (1) (1) rfl); omega)
                      · refine zH_eqc (rfl : a1.toInt = _) (iL (267308) (267308) rfl) (fun c_30e c_30 => ?_) (fun c_30e c_30 => ?_)
                        · have q_31 : (1 : Int32).toInt = (1 : Int) := (iL (1) (1) rfl)
                          exact zH_some (show (1 : Int32).toInt = 0 ∨ (1 : Int32).toInt = 1 from by have q_32 : (1 : Int32).toInt = (1 : Int) := (iL (1) (1) rfl); omega)
                        · have q_33 : (0 : Int32).toInt = (0 : Int) := (iL (0) (0) rfl)
                          exact zH_some (show (0 : Int32).toInt = 0 ∨ (0 : Int32).toInt = 1 from by have q_34 : (0 : Int32).toInt = (0 : Int) := (iL (0) (0) rfl); omega)
    · have q_35 : (1 : Int32).toInt = (1 : Int) := (iL (1) (1) rfl)
      exact zH_some (show (1 : Int32).toInt = 0 ∨ (1 : Int32).toInt = 1 from by have q_36 : (1 : Int32).toInt = (1 : Int) := (iL (1) (1) rfl); omega)
  · refine zH_eqc (rfl : a1.toInt = _) (iL (402891) (402891) rfl) (fun c_37e c_37 => ?_) (fun c_37e c_37 => ?_)
    · unfold fX12_isOwn_n67
      unfold fX12_isOwn_n72
      refine zH_eqc (iL (1) (1) rfl) (iL (0) (0) rfl) (fun c_38e c_38 => ?_) (fun c_38e c_38 => ?_)
      · refine zH_eqc (rfl : a1.toInt = _) (iL (21562475) (21562475) rfl) (fun c_39e c_39 => ?_) (fun c_39e c_39 => ?_)
        · have q_40 : (1 : Int32).toInt = (1 : Int) := (iL (1) (1) rfl)
          exact zH_some (show (1 : Int32).toInt = 0 ∨ (1 : Int32).toInt = 1 from by have q_41 : (1 : Int32).toInt = (1 : Int) := (iL (1) (1) rfl); omega)
        · refine zH_eqc (rfl : a1.toInt = _) (iL (89) (89) rfl) (fun c_42e c_42 => ?_) (fun c_42e c_42 => ?_)
          · have q_43 : (1 : Int32).toInt = (1 : Int) := (iL (1) (1) rfl)
            exact zH_some (show (1 : Int32).toInt = 0 ∨ (1 : Int32).toInt = 1 from by have q_44 : (1 : Int32).toInt = (1 : Int) := (iL (1) (1) rfl); omega)
          · refine zH_eqc (rfl : a1.toInt = _) (iL (398963) (398963) rfl) (fun c_45e c_45 => ?_) (fun c_45e c_45 => ?_)
            · have q_46 : (1 : Int32).toInt = (1 : Int) := (iL (1) (1) rfl)
              exact zH_some (show (1 : Int32).toInt = 0 ∨ (1 : Int32).toInt = 1 from by have q_47 : (1 : Int32).toInt = (1 : Int) := (iL (1) (1) rfl); omega)
            · refine zH_eqc (rfl : a1.toInt = _) (iL (52) (52) rfl) (fun c_48e c_48 => ?_) (fun c_48e c_48 => ?_)
              · have q_49 : (1 : Int32).toInt = (1 : Int) := (iL (1) (1) rfl)
                exact zH_some (show (1 : Int32).toInt = 0 ∨ (1 : Int32).toInt = 1 from by have q_50 : (1 : Int32).toInt = (1 : Int) := (iL (1) (1) rfl); omega)
              · refine zH_eqc (rfl : a1.toInt = _) (iL (688) (688) rfl) (fun c_51e c_51 => ?_) (fun c_51e c_51 => ?_)
                · have q_52 : (1 : Int32).toInt = (1 : Int) := (iL (1) (1) rfl)
                  exact zH_some (show (1 : Int32).toInt = 0 ∨ (1 : Int32).toInt = 1 from by have q_53 : (1 : Int32).toInt = (1 : Int) := (iL (1) (1) rfl); omega)
                · refine zH_eqc (rfl : a1.toInt = _) (iL (147182) (147182) rfl) (fun c_54e c_54 => ?_) (fun c_54e c_54 => ?_)
                  · have q_55 : (1 : Int32).toInt = (1 : Int) := (iL (1) (1) rfl)
                    exact zH_some (show (1 : Int32).toInt = 0 ∨ (1 : Int32).toInt = 1 from by have q_56 : (1 : Int32).toInt = (1 : Int) := (iL (1) (1) rfl); omega)
                  · refine zH_eqc (rfl : a1.toInt = _) (iL (3764) (3764) rfl) (fun c_57e c_57 => ?_) (fun c_57e c_57 => ?_)
                    · have q_58 : (1 : Int32).toInt = (1 : Int) := (iL (1) (1) rfl)
                      exact zH_some (show (1 : Int32).toInt = 0 ∨ (1 : Int32).toInt = 1 from by have q_59 : (1 : Int32).toInt = (1 : Int) := (iL (1) (1) rfl); omega)
                    · refine zH_eqc (rfl : a1.toInt = _) (iL (431556) (431556) rfl) (fun c_60e c_60 => ?_) (fun c_60e c_60 => ?_)
                      · have q_61 : (1 : Int32).toInt = (1 : Int) := (iL (1) (1) rfl)
                        exact zH_some (show (1 : Int32).toInt = 0 ∨ (1 : Int32).toInt = 1 from by have q_62 : (1 : Int32).toInt = (1 : Int) := (iL (1) (1) rfl); omega)
                      · refine zH_eqc (rfl : a1.toInt = _) (iL (20459828) (20459828) rfl) (fun c_63e c_63 => ?_) (fun c_63e c_63 => ?_)
                        · have q_64 : (1 : Int32).toInt = (1 : Int) := (iL (1) (1) rfl)
                          exact zH_some (show (1 : Int32).toInt = 0 ∨ (1 : Int32).toInt = 1 from by have q_65 : (1 : Int32).toInt = (1 : Int) := (iL (1) (1) rfl); omega)
                        · refine zH_eqc (rfl : a1.toInt = _) (iL (267308) (267308) rfl) (fun c_66e c_66 => ?_) (fun c_66e c_66 => ?_)
                          · have q_67 : (1 : Int32).toInt = (1 : Int) := (iL (1) (1) rfl)
                            exact zH_some (show (1 : Int32).toInt = 0 ∨ (1 : Int32).toInt = 1 from by have q_68 : (1 : Int32).toInt = (1 : Int) := (iL (1) (1) rfl); omega)
                          · have q_69 : (0 : Int32).toInt = (0 : Int) := (iL (0) (0) rfl)
                            exact zH_some (show (0 : Int32).toInt = 0 ∨ (0 : Int32).toInt = 1 from by have q_70 : (0 : Int32).toInt = (0 : Int) := (iL (0) (0) rfl); omega)
      · have q_71 : (1 : Int32).toInt = (1 : Int) := (iL (1) (1) rfl)
        exact zH_some (show (1 : Int32).toInt = 0 ∨ (1 : Int32).toInt = 1 from by have q_72 : (1 : Int32).toInt = (1 : Int) := (iL (1) (1) rfl); omega)
    · refine zH_eqc (rfl : a1.toInt = _) (iL (7945904) (7945904) rfl) (fun c_73e c_73 => ?_) (fun c_73e c_73 => ?_)
      · unfold fX12_isOwn_n67
        unfold fX12_isOwn_n72
        refine zH_eqc (iL (1) (1) rfl) (iL (0) (0) rfl) (fun c_74e c_74 => ?_) (fun c_74e c_74 => ?_)
        · refine zH_eqc (rfl : a1.toInt = _) (iL (21562475) (21562475) rfl) (fun c_75e c_75 => ?_) (fun c_75e c_75 => ?_)
          · have q_76 : (1 : Int32).toInt = (1 : Int) := (iL (1) (1) rfl)
            exact zH_some (show (1 : Int32).toInt = 0 ∨ (1 : Int32).toInt = 1 from by have q_77 : (1 : Int32).toInt = (1 : Int) := (iL (1) (1) rfl); omega)
          · refine zH_eqc (rfl : a1.toInt = _) (iL (89) (89) rfl) (fun c_78e c_78 => ?_) (fun c_78e c_78 => ?_)
            · have q_79 : (1 : Int32).toInt = (1 : Int) := (iL (1) (1) rfl)
              exact zH_some (show (1 : Int32).toInt = 0 ∨ (1 : Int32).toInt = 1 from by have q_80 : (1 : Int32).toInt = (1 : Int) := (iL (1) (1) rfl); omega)
            · refine zH_eqc (rfl : a1.toInt = _) (iL (398963) (398963) rfl) (fun c_81e c_81 => ?_) (fun c_81e c_81 => ?_)
              · have q_82 : (1 : Int32).toInt = (1 : Int) := (iL (1) (1) rfl)
                exact zH_some (show (1 : Int32).toInt = 0 ∨ (1 : Int32).toInt = 1 from by have q_83 : (1 : Int32).toInt = (1 : Int) := (iL (1) (1) rfl); omega)
              · refine zH_eqc (rfl : a1.toInt = _) (iL (52) (52) rfl) (fun c_84e c_84 => ?_) (fun c_84e c_84 => ?_)
                · have q_85 : (1 : Int32).toInt = (1 : Int) := (iL (1) (1) rfl)
                  exact zH_some (show (1 : Int32).toInt = 0 ∨ (1 : Int32).toInt = 1 from by have q_86 : (1 : Int32).toInt = (1 : Int) := (iL (1) (1) rfl); omega)
                · refine zH_eqc (rfl : a1.toInt = _) (iL (688) (688) rfl) (fun c_87e c_87 => ?_) (fun c_87e c_87 => ?_)
                  · have q_88 : (1 : Int32).toInt = (1 : Int) := (iL (1) (1) rfl)
                    exact zH_some (show (1 : Int32).toInt = 0 ∨ (1 : Int32).toInt = 1 from by have q_89 : (1 : Int32).toInt = (1 : Int) := (iL (1) (1) rfl); omega)
                  · refine zH_eqc (rfl : a1.toInt = _) (iL (147182) (147182) rfl) (fun c_90e c_90 => ?_) (fun c_90e c_90 => ?_)
                    · have q_91 : (1 : Int32).toInt = (1 : Int) := (iL (1) (1) rfl)
                      exact zH_some (show (1 : Int32).toInt = 0 ∨ (1 : Int32).toInt = 1 from by have q_92 : (1 : Int32).toInt = (1 : Int) := (iL (1) (1) rfl); omega)
                    · refine zH_eqc (rfl : a1.toInt = _) (iL (3764) (3764) rfl) (fun c_93e c_93 => ?_) (fun c_93e c_93 => ?_)
                      · have q_94 : (1 : Int32).toInt = (1 : Int) := (iL (1) (1) rfl)
                        exact zH_some (show (1 : Int32).toInt = 0 ∨ (1 : Int32).toInt = 1 from by have q_95 : (1 : Int32).toInt = (1 : Int) := (iL (1) (1) rfl); omega)
                      · refine zH_eqc (rfl : a1.toInt = _) (iL (431556) (431556) rfl) (fun c_96e c_96 => ?_) (fun c_96e c_96 => ?_)
                        · have q_97 : (1 : Int32).toInt = (1 : Int) := (iL (1) (1) rfl)
                          exact zH_some (show (1 : Int32).toInt = 0 ∨ (1 : Int32).toInt = 1 from by have q_98 : (1 : Int32).toInt = (1 : Int) := (iL (1) (1) rfl); omega)
                        · refine zH_eqc (rfl : a1.toInt = _) (iL (20459828) (20459828) rfl) (fun c_99e c_99 => ?_) (fun c_99e c_99 => ?_)
                          · have q_100 : (1 : Int32).toInt = (1 : Int) := (iL (1) (1) rfl)
                            exact zH_some (show (1 : Int32).toInt = 0 ∨ (1 : Int32).toInt = 1 from by have q_101 : (1 : Int32).toInt = (1 : Int) := (iL (1) (1) rfl); omega)
                          · refine zH_eqc (rfl : a1.toInt = _) (iL (267308) (267308) rfl) (fun c_102e c_102 => ?_) (fun c_102e c_102 => ?_)
                            · have q_103 : (1 : Int32).toInt = (1 : Int) := (iL (1) (1) rfl)
                              exact zH_some (show (1 : Int32).toInt = 0 ∨ (1 : Int32).toInt = 1 from by have q_104 : (1 : Int32).toInt = (1 : Int) := (iL (1) (1) rfl); omega)
                            · have q_105 : (0 : Int32).toInt = (0 : Int) := (iL (0) (0) rfl)
                              exact zH_some (show (0 : Int32).toInt = 0 ∨ (0 : Int32).toInt = 1 from by have q_106 : (0 : Int32).toInt = (0 : Int) := (iL (0) (0) rfl); omega)
        · have q_107 : (1 : Int32).toInt = (1 : Int) := (iL (1) (1) rfl)
          exact zH_some (show (1 : Int32).toInt = 0 ∨ (1 : Int32).toInt = 1 from by have q_108 : (1 : Int32).toInt = (1 : Int) := (iL (1) (1) rfl); omega)
      · refine zH_eqc (rfl : a1.toInt = _) (iL (5969497) (5969497) rfl) (fun c_109e c_109 => ?_) (fun c_109e c_109 => ?_)
        · unfold fX12_isOwn_n67
          unfold fX12_isOwn_n72
          refine zH_eqc (iL (1) (1) rfl) (iL (0) (0) rfl) (fun c_110e c_110 => ?_) (fun c_110e c_110 => ?_)
          · refine zH_eqc (rfl : a1.toInt = _) (iL (21562475) (21562475) rfl) (fun c_111e c_111 => ?_) (fun c_111e c_111 => ?_)
            · have q_112 : (1 : Int32).toInt = (1 : Int) := (iL (1) (1) rfl)
              exact zH_some (show (1 : Int32).toInt = 0 ∨ (1 : Int32).toInt = 1 from by have q_113 : (1 : Int32).toInt = (1 : Int) := (iL (1) (1) rfl); omega)
            · refine zH_eqc (rfl : a1.toInt = _) (iL (89) (89) rfl) (fun c_114e c_114 => ?_) (fun c_114e c_114 => ?_)
              · have q_115 : (1 : Int32).toInt = (1 : Int) := (iL (1) (1) rfl)
                exact zH_some (show (1 : Int32).toInt = 0 ∨ (1 : Int32).toInt = 1 from by have q_116 : (1 : Int32).toInt = (1 : Int) := (iL (1) (1) rfl); omega)
              · refine zH_eqc (rfl : a1.toInt = _) (iL (398963) (398963) rfl) (fun c_117e c_117 => ?_) (fun c_117e c_117 => ?_)
                · have q_118 : (1 : Int32).toInt = (1 : Int) := (iL (1) (1) rfl)
                  exact zH_some (show (1 : Int32).toInt = 0 ∨ (1 : Int32).toInt = 1 from by have q_119 : (1 : Int32).toInt = (1 : Int) := (iL (1) (1) rfl); omega)
                · refine zH_eqc (rfl : a1.toInt = _) (iL (52) (52) rfl) (fun c_120e c_120 => ?_) (fun c_120e c_120 => ?_)
                  · have q_121 : (1 : Int32).toInt = (1 : Int) := (iL (1) (1) rfl)
                    exact zH_some (show (1 : Int32).toInt = 0 ∨ (1 : Int32).toInt = 1 from by have q_122 : (1 : Int32).toInt = (1 : Int) := (iL (1) (1) rfl); omega)
                  · refine zH_eqc (rfl : a1.toInt = _) (iL (688) (688) rfl) (fun c_123e c_123 => ?_) (fun c_123e c_123 => ?_)
                    · have q_124 : (1 : Int32).toInt = (1 : Int) := (iL (1) (1) rfl)
                      exact zH_some (show (1 : Int32).toInt = 0 ∨ (1 : Int32).toInt = 1 from by have q_125 : (1 : Int32).toInt = (1 : Int) := (iL (1) (1) rfl); omega)
                    · refine zH_eqc (rfl : a1.toInt = _) (iL (147182) (147182) rfl) (fun c_126e c_126 => ?_) (fun c_126e c_126 => ?_)
                      · have q_127 : (1 : Int32).toInt = (1 : Int) := (iL (1) (1) rfl)
                        exact zH_some (show (1 : Int32).toInt = 0 ∨ (1 : Int32).toInt = 1 from by have q_128 : (1 : Int32).toInt = (1 : Int) := (iL (1) (1) rfl); omega)
                      · refine zH_eqc (rfl : a1.toInt = _) (iL (3764) (3764) rfl) (fun c_129e c_129 => ?_) (fun c_129e c_129 => ?_)
                        · have q_130 : (1 : Int32).toInt = (1 : Int) := (iL (1) (1) rfl)
                          exact zH_some (show (1 : Int32).toInt = 0 ∨ (1 : Int32).toInt = 1 from by have q_131 : (1 : Int32).toInt = (1 : Int) := (iL (1) (1) rfl); omega)
                        · refine zH_eqc (rfl : a1.toInt = _) (iL (431556) (431556) rfl) (fun c_132e c_132 => ?_) (fun c_132e c_132 => ?_)
                          · have q_133 : (1 : Int32).toInt = (1 : Int) := (iL (1) (1) rfl)
                            exact zH_some (show (1 : Int32).toInt = 0 ∨ (1 : Int32).toInt = 1 from by have q_134 : (1 : Int32).toInt = (1 : Int) := (iL (1) (1) rfl); omega)
                          · refine zH_eqc (rfl : a1.toInt = _) (iL (20459828) (20459828) rfl) (fun c_135e c_135 => ?_) (fun c_135e c_135 => ?_)
                            · have q_136 : (1 : Int32).toInt = (1 : Int) := (iL (1) (1) rfl)
                              exact zH_some (show (1 : Int32).toInt = 0 ∨ (1 : Int32).toInt = 1 from by have q_137 : (1 : Int32).toInt = (1 : Int) := (iL (1) (1) rfl); omega)
                            · refine zH_eqc (rfl : a1.toInt = _) (iL (267308) (267308) rfl) (fun c_138e c_138 => ?_) (fun c_138e c_138 => ?_)
                              · have q_139 : (1 : Int32).toInt = (1 : Int) := (iL (1) (1) rfl)
                                exact zH_some (show (1 : Int32).toInt = 0 ∨ (1 : Int32).toInt = 1 from by have q_140 : (1 : Int32).toInt = (1 : Int) := (iL (1) (1) rfl); omega)
                              · have q_141 : (0 : Int32).toInt = (0 : Int) := (iL (0) (0) rfl)
                                exact zH_some (show (0 : Int32).toInt = 0 ∨ (0 : Int32).toInt = 1 from by have q_142 : (0 : Int32).toInt = (0 : Int) := (iL (0) (0) rfl); omega)
          · have q_143 : (1 : Int32).toInt = (1 : Int) := (iL (1) (1) rfl)
            exact zH_some (show (1 : Int32).toInt = 0 ∨ (1 : Int32).toInt = 1 from by have q_144 : (1 : Int32).toInt = (1 : Int) := (iL (1) (1) rfl); omega)
        · refine zH_eqc (rfl : a1.toInt = _) (iL (4370489) (4370489) rfl) (fun c_145e c_145 => ?_) (fun c_145e c_145 => ?_)
          · unfold fX12_isOwn_n67
            unfold fX12_isOwn_n72
            refine zH_eqc (iL (1) (1) rfl) (iL (0) (0) rfl) (fun c_146e c_146 => ?_) (fun c_146e c_146 => ?_)
            · refine zH_eqc (rfl : a1.toInt = _) (iL (21562475) (21562475) rfl) (fun c_147e c_147 => ?_) (fun c_147e c_147 => ?_)
              · have q_148 : (1 : Int32).toInt = (1 : Int) := (iL (1) (1) rfl)
                exact zH_some (show (1 : Int32).toInt = 0 ∨ (1 : Int32).toInt = 1 from by have q_149 : (1 : Int32).toInt = (1 : Int) := (iL (1) (1) rfl); omega)
              · refine zH_eqc (rfl : a1.toInt = _) (iL (89) (89) rfl) (fun c_150e c_150 => ?_) (fun c_150e c_150 => ?_)
                · have q_151 : (1 : Int32).toInt = (1 : Int) := (iL (1) (1) rfl)
                  exact zH_some (show (1 : Int32).toInt = 0 ∨ (1 : Int32).toInt = 1 from by have q_152 : (1 : Int32).toInt = (1 : Int) := (iL (1) (1) rfl); omega)
                · refine zH_eqc (rfl : a1.toInt = _) (iL (398963) (398963) rfl) (fun c_153e c_153 => ?_) (fun c_153e c_153 => ?_)
                  · have q_154 : (1 : Int32).toInt = (1 : Int) := (iL (1) (1) rfl)
                    exact zH_some (show (1 : Int32).toInt = 0 ∨ (1 : Int32).toInt = 1 from by have q_155 : (1 : Int32).toInt = (1 : Int) := (iL (1) (1) rfl); omega)
                  · refine zH_eqc (rfl : a1.toInt = _) (iL (52) (52) rfl) (fun c_156e c_156 => ?_) (fun c_156e c_156 => ?_)
                    · have q_157 : (1 : Int32).toInt = (1 : Int) := (iL (1) (1) rfl)
                      exact zH_some (show (1 : Int32).toInt = 0 ∨ (1 : Int32).toInt = 1 from by have q_158 : (1 : Int32).toInt = (1 : Int) := (iL (1) (1) rfl); omega)
                    · refine zH_eqc (rfl : a1.toInt = _) (iL (688) (688) rfl) (fun c_159e c_159 => ?_) (fun c_159e c_159 => ?_)
                      · have q_160 : (1 : Int32).toInt = (1 : Int) := (iL (1) (1) rfl)
                        exact zH_some (show (1 : Int32).toInt = 0 ∨ (1 : Int32).toInt = 1 from by have q_161 : (1 : Int32).toInt = (1 : Int) := (iL (1) (1) rfl); omega)
                      · refine zH_eqc (rfl : a1.toInt = _) (iL (147182) (147182) rfl) (fun c_162e c_162 => ?_) (fun c_162e c_162 => ?_)
                        · have q_163 : (1 : Int32).toInt = (1 : Int) := (iL (1) (1) rfl)
                          exact zH_some (show (1 : Int32).toInt = 0 ∨ (1 : Int32).toInt = 1 from by have q_164 : (1 : Int32).toInt = (1 : Int) := (iL (1) (1) rfl); omega)
                        · refine zH_eqc (rfl : a1.toInt = _) (iL (3764) (3764) rfl) (fun c_165e c_165 => ?_) (fun c_165e c_165 => ?_)
                          · have q_166 : (1 : Int32).toInt = (1 : Int) := (iL (1) (1) rfl)
                            exact zH_some (show (1 : Int32).toInt = 0 ∨ (1 : Int32).toInt = 1 from by have q_167 : (1 : Int32).toInt = (1 : Int) := (iL (1) (1) rfl); omega)
                          · refine zH_eqc (rfl : a1.toInt = _) (iL (431556) (431556) rfl) (fun c_168e c_168 => ?_) (fun c_168e c_168 => ?_)
                            · have q_169 : (1 : Int32).toInt = (1 : Int) := (iL (1) (1) rfl)
                              exact zH_some (show (1 : Int32).toInt = 0 ∨ (1 : Int32).toInt = 1 from by have q_170 : (1 : Int32).toInt = (1 : Int) := (iL (1) (1) rfl); omega)
                            · refine zH_eqc (rfl : a1.toInt = _) (iL (20459828) (20459828) rfl) (fun c_171e c_171 => ?_) (fun c_171e c_171 => ?_)
                              · have q_172 : (1 : Int32).toInt = (1 : Int) := (iL (1) (1) rfl)
                                exact zH_some (show (1 : Int32).toInt = 0 ∨ (1 : Int32).toInt = 1 from by have q_173 : (1 : Int32).toInt = (1 : Int) := (iL (1) (1) rfl); omega)
                              · refine zH_eqc (rfl : a1.toInt = _) (iL (267308) (267308) rfl) (fun c_174e c_174 => ?_) (fun c_174e c_174 => ?_)
                                · have q_175 : (1 : Int32).toInt = (1 : Int) := (iL (1) (1) rfl)
                                  exact zH_some (show (1 : Int32).toInt = 0 ∨ (1 : Int32).toInt = 1 from by have q_176 : (1 : Int32).toInt = (1 : Int) := (iL (1) (1) rfl); omega)
                                · have q_177 : (0 : Int32).toInt = (0 : Int) := (iL (0) (0) rfl)
                                  exact zH_some (show (0 : Int32).toInt = 0 ∨ (0 : Int32).toInt = 1 from by have q_178 : (0 : Int32).toInt = (0 : Int) := (iL (0) (0) rfl); omega)
            · have q_179 : (1 : Int32).toInt = (1 : Int) := (iL (1) (1) rfl)
              exact zH_some (show (1 : Int32).toInt = 0 ∨ (1 : Int32).toInt = 1 from by have q_180 : (1 : Int32).toInt = (1 : Int) := (iL (1) (1) rfl); omega)
          · refine zH_eqc (rfl : a1.toInt = _) (iL (11703827) (11703827) rfl) (fun c_181e c_181 => ?_) (fun c_181e c_181 => ?_)
            · unfold fX12_isOwn_n67
              unfold fX12_isOwn_n72
              refine zH_eqc (iL (1) (1) rfl) (iL (0) (0) rfl) (fun c_182e c_182 => ?_) (fun c_182e c_182 => ?_)
              · refine zH_eqc (rfl : a1.toInt = _) (iL (21562475) (21562475) rfl) (fun c_183e c_183 => ?_) (fun c_183e c_183 => ?_)
                · have q_184 : (1 : Int32).toInt = (1 : Int) := (iL (1) (1) rfl)
                  exact zH_some (show (1 : Int32).toInt = 0 ∨ (1 : Int32).toInt = 1 from by have q_185 : (1 : Int32).toInt = (1 : Int) := (iL (1) (1) rfl); omega)
                · refine zH_eqc (rfl : a1.toInt = _) (iL (89) (89) rfl) (fun c_186e c_186 => ?_) (fun c_186e c_186 => ?_)
                  · have q_187 : (1 : Int32).toInt = (1 : Int) := (iL (1) (1) rfl)
                    exact zH_some (show (1 : Int32).toInt = 0 ∨ (1 : Int32).toInt = 1 from by have q_188 : (1 : Int32).toInt = (1 : Int) := (iL (1) (1) rfl); omega)
                  · refine zH_eqc (rfl : a1.toInt = _) (iL (398963) (398963) rfl) (fun c_189e c_189 => ?_) (fun c_189e c_189 => ?_)
                    · have q_190 : (1 : Int32).toInt = (1 : Int) := (iL (1) (1) rfl)
                      exact zH_some (show (1 : Int32).toInt = 0 ∨ (1 : Int32).toInt = 1 from by have q_191 : (1 : Int32).toInt = (1 : Int) := (iL (1) (1) rfl); omega)
                    · refine zH_eqc (rfl : a1.toInt = _) (iL (52) (52) rfl) (fun c_192e c_192 => ?_) (fun c_192e c_192 => ?_)
                      · have q_193 : (1 : Int32).toInt = (1 : Int) := (iL (1) (1) rfl)
                        exact zH_some (show (1 : Int32).toInt = 0 ∨ (1 : Int32).toInt = 1 from by have q_194 : (1 : Int32).toInt = (1 : Int) := (iL (1) (1) rfl); omega)
                      · refine zH_eqc (rfl : a1.toInt = _) (iL (688) (688) rfl) (fun c_195e c_195 => ?_) (fun c_195e c_195 => ?_)
                        · have q_196 : (1 : Int32).toInt = (1 : Int) := (iL (1) (1) rfl)
                          exact zH_some (show (1 : Int32).toInt = 0 ∨ (1 : Int32).toInt = 1 from by have q_197 : (1 : Int32).toInt = (1 : Int) := (iL (1) (1) rfl); omega)
                        · refine zH_eqc (rfl : a1.toInt = _) (iL (147182) (147182) rfl) (fun c_198e c_198 => ?_) (fun c_198e c_198 => ?_)
                          · have q_199 : (1 : Int32).toInt = (1 : Int) := (iL (1) (1) rfl)
                            exact zH_some (show (1 : Int32).toInt = 0 ∨ (1 : Int32).toInt = 1 from by have q_200 : (1 : Int32).toInt = (1 : Int) := (iL (1) (1) rfl); omega)
                          · refine zH_eqc (rfl : a1.toInt = _) (iL (3764) (3764) rfl) (fun c_201e c_201 => ?_) (fun c_201e c_201 => ?_)
                            · have q_202 : (1 : Int32).toInt = (1 : Int) := (iL (1) (1) rfl)
                              exact zH_some (show (1 : Int32).toInt = 0 ∨ (1 : Int32).toInt = 1 from by have q_203 : (1 : Int32).toInt = (1 : Int) := (iL (1) (1) rfl); omega)
                            · refine zH_eqc (rfl : a1.toInt = _) (iL (431556) (431556) rfl) (fun c_204e c_204 => ?_) (fun c_204e c_204 => ?_)
                              · have q_205 : (1 : Int32).toInt = (1 : Int) := (iL (1) (1) rfl)
                                exact zH_some (show (1 : Int32).toInt = 0 ∨ (1 : Int32).toInt = 1 from by have q_206 : (1 : Int32).toInt = (1 : Int) := (iL (1) (1) rfl); omega)
                              · refine zH_eqc (rfl : a1.toInt = _) (iL (20459828) (20459828) rfl) (fun c_207e c_207 => ?_) (fun c_207e c_207 => ?_)
                                · have q_208 : (1 : Int32).toInt = (1 : Int) := (iL (1) (1) rfl)
                                  exact zH_some (show (1 : Int32).toInt = 0 ∨ (1 : Int32).toInt = 1 from by have q_209 : (1 : Int32).toInt = (1 : Int) := (iL (1) (1) rfl); omega)
                                · refine zH_eqc (rfl : a1.toInt = _) (iL (267308) (267308) rfl) (fun c_210e c_210 => ?_) (fun c_210e c_210 => ?_)
                                  · have q_211 : (1 : Int32).toInt = (1 : Int) := (iL (1) (1) rfl)
                                    exact zH_some (show (1 : Int32).toInt = 0 ∨ (1 : Int32).toInt = 1 from by have q_212 : (1 : Int32).toInt = (1 : Int) := (iL (1) (1) rfl); omega)
                                  · have q_213 : (0 : Int32).toInt = (0 : Int) := (iL (0) (0) rfl)
                                    exact zH_some (show (0 : Int32).toInt = 0 ∨ (0 : Int32).toInt = 1 from by have q_214 : (0 : Int32).toInt = (0 : Int) := (iL (0) (0) rfl); omega)
              · have q_215 : (1 : Int32).toInt = (1 : Int) := (iL (1) (1) rfl)
                exact zH_some (show (1 : Int32).toInt = 0 ∨ (1 : Int32).toInt = 1 from by have q_216 : (1 : Int32).toInt = (1 : Int) := (iL (1) (1) rfl); omega)
            · refine zH_eqc (rfl : a1.toInt = _) (iL (20332179) (20332179) rfl) (fun c_217e c_217 => ?_) (fun c_217e c_217 => ?_)
              · unfold fX12_isOwn_n67
                unfold fX12_isOwn_n72
                refine zH_eqc (iL (1) (1) rfl) (iL (0) (0) rfl) (fun c_218e c_218 => ?_) (fun c_218e c_218 => ?_)
                · refine zH_eqc (rfl : a1.toInt = _) (iL (21562475) (21562475) rfl) (fun c_219e c_219 => ?_) (fun c_219e c_219 => ?_)
                  · have q_220 : (1 : Int32).toInt = (1 : Int) := (iL (1) (1) rfl)
                    exact zH_some (show (1 : Int32).toInt = 0 ∨ (1 : Int32).toInt = 1 from by have q_221 : (1 : Int32).toInt = (1 : Int) := (iL (1) (1) rfl); omega)
                  · refine zH_eqc (rfl : a1.toInt = _) (iL (89) (89) rfl) (fun c_222e c_222 => ?_) (fun c_222e c_222 => ?_)
                    · have q_223 : (1 : Int32).toInt = (1 : Int) := (iL (1) (1) rfl)
                      exact zH_some (show (1 : Int32).toInt = 0 ∨ (1 : Int32).toInt = 1 from by have q_224 : (1 : Int32).toInt = (1 : Int) := (iL (1) (1) rfl); omega)
                    · refine zH_eqc (rfl : a1.toInt = _) (iL (398963) (398963) rfl) (fun c_225e c_225 => ?_) (fun c_225e c_225 => ?_)
                      · have q_226 : (1 : Int32).toInt = (1 : Int) := (iL (1) (1) rfl)
                        exact zH_some (show (1 : Int32).toInt = 0 ∨ (1 : Int32).toInt = 1 from by have q_227 : (1 : Int32).toInt = (1 : Int) := (iL (1) (1) rfl); omega)
                      · refine zH_eqc (rfl : a1.toInt = _) (iL (52) (52) rfl) (fun c_228e c_228 => ?_) (fun c_228e c_228 => ?_)
                        · have q_229 : (1 : Int32).toInt = (1 : Int) := (iL (1) (1) rfl)
                          exact zH_some (show (1 : Int32).toInt = 0 ∨ (1 : Int32).toInt = 1 from by have q_230 : (1 : Int32).toInt = (1 : Int) := (iL (1) (1) rfl); omega)
                        · refine zH_eqc (rfl : a1.toInt = _) (iL (688) (688) rfl) (fun c_231e c_231 => ?_) (fun c_231e c_231 => ?_)
                          · have q_232 : (1 : Int32).toInt = (1 : Int) := (iL (1) (1) rfl)
                            exact zH_some (show (1 : Int32).toInt = 0 ∨ (1 : Int32).toInt = 1 from by have q_233 : (1 : Int32).toInt = (1 : Int) := (iL (1) (1) rfl); omega)
                          · refine zH_eqc (rfl : a1.toInt = _) (iL (147182) (147182) rfl) (fun c_234e c_234 => ?_) (fun c_234e c_234 => ?_)
                            · have q_235 : (1 : Int32).toInt = (1 : Int) := (iL (1) (1) rfl)
                              exact zH_some (show (1 : Int32).toInt = 0 ∨ (1 : Int32).toInt = 1 from by have q_236 : (1 : Int32).toInt = (1 : Int) := (iL (1) (1) rfl); omega)
                            · refine zH_eqc (rfl : a1.toInt = _) (iL (3764) (3764) rfl) (fun c_237e c_237 => ?_) (fun c_237e c_237 => ?_)
                              · have q_238 : (1 : Int32).toInt = (1 : Int) := (iL (1) (1) rfl)
                                exact zH_some (show (1 : Int32).toInt = 0 ∨ (1 : Int32).toInt = 1 from by have q_239 : (1 : Int32).toInt = (1 : Int) := (iL (1) (1) rfl); omega)
                              · refine zH_eqc (rfl : a1.toInt = _) (iL (431556) (431556) rfl) (fun c_240e c_240 => ?_) (fun c_240e c_240 => ?_)
                                · have q_241 : (1 : Int32).toInt = (1 : Int) := (iL (1) (1) rfl)
                                  exact zH_some (show (1 : Int32).toInt = 0 ∨ (1 : Int32).toInt = 1 from by have q_242 : (1 : Int32).toInt = (1 : Int) := (iL (1) (1) rfl); omega)
                                · refine zH_eqc (rfl : a1.toInt = _) (iL (20459828) (20459828) rfl) (fun c_243e c_243 => ?_) (fun c_243e c_243 => ?_)
                                  · have q_244 : (1 : Int32).toInt = (1 : Int) := (iL (1) (1) rfl)
                                    exact zH_some (show (1 : Int32).toInt = 0 ∨ (1 : Int32).toInt = 1 from by have q_245 : (1 : Int32).toInt = (1 : Int) := (iL (1) (1) rfl); omega)
                                  · refine zH_eqc (rfl : a1.toInt = _) (iL (267308) (267308) rfl) (fun c_246e c_246 => ?_) (fun c_246e c_246 => ?_)
                                    · have q_247 : (1 : Int32).toInt = (1 : Int) := (iL (1) (1) rfl)
                                      exact zH_some (show (1 : Int32).toInt = 0 ∨ (1 : Int32).toInt = 1 from by have q_248 : (1 : Int32).toInt = (1 : Int) := (iL (1) (1) rfl); omega)
                                    · have q_249 : (0 : Int32).toInt = (0 : Int) := (iL (0) (0) rfl)
                                      exact zH_some (show (0 : Int32).toInt = 0 ∨ (0 : Int32).toInt = 1 from by have q_250 : (0 : Int32).toInt = (0 : Int) := (iL (0) (0) rfl); omega)
                · have q_251 : (1 : Int32).toInt = (1 : Int) := (iL (1) (1) rfl)
                  exact zH_some (show (1 : Int32).toInt = 0 ∨ (1 : Int32).toInt = 1 from by have q_252 : (1 : Int32).toInt = (1 : Int) := (iL (1) (1) rfl); omega)
              · refine zH_eqc (rfl : a1.toInt = _) (iL (441878706) (441878706) rfl) (fun c_253e c_253 => ?_) (fun c_253e c_253 => ?_)
                · unfold fX12_isOwn_n67
                  unfold fX12_isOwn_n72
                  refine zH_eqc (iL (1) (1) rfl) (iL (0) (0) rfl) (fun c_254e c_254 => ?_) (fun c_254e c_254 => ?_)
                  · refine zH_eqc (rfl : a1.toInt = _) (iL (21562475) (21562475) rfl) (fun c_255e c_255 => ?_) (fun c_255e c_255 => ?_)
                    · have q_256 : (1 : Int32).toInt = (1 : Int) := (iL (1) (1) rfl)
                      exact zH_some (show (1 : Int32).toInt = 0 ∨ (1 : Int32).toInt = 1 from by have q_257 : (1 : Int32).toInt = (1 : Int) := (iL (1) (1) rfl); omega)
                    · refine zH_eqc (rfl : a1.toInt = _) (iL (89) (89) rfl) (fun c_258e c_258 => ?_) (fun c_258e c_258 => ?_)
                      · have q_259 : (1 : Int32).toInt = (1 : Int) := (iL (1) (1) rfl)
                        exact zH_some (show (1 : Int32).toInt = 0 ∨ (1 : Int32).toInt = 1 from by have q_260 : (1 : Int32).toInt = (1 : Int) := (iL (1) (1) rfl); omega)
                      · refine zH_eqc (rfl : a1.toInt = _) (iL (398963) (398963) rfl) (fun c_261e c_261 => ?_) (fun c_261e c_261 => ?_)
                        · have q_262 : (1 : Int32).toInt = (1 : Int) := (iL (1) (1) rfl)
                          exact zH_some (show (1 : Int32).toInt = 0 ∨ (1 : Int32).toInt = 1 from by have q_263 : (1 : Int32).toInt = (1 : Int) := (iL (1) (1) rfl); omega)
                        · refine zH_eqc (rfl : a1.toInt = _) (iL (52) (52) rfl) (fun c_264e c_264 => ?_) (fun c_264e c_264 => ?_)
                          · have q_265 : (1 : Int32).toInt = (1 : Int) := (iL (1) (1) rfl)
                            exact zH_some (show (1 : Int32).toInt = 0 ∨ (1 : Int32).toInt = 1 from by have q_266 : (1 : Int32).toInt = (1 : Int) := (iL (1) (1) rfl); omega)
                          · refine zH_eqc (rfl : a1.toInt = _) (iL (688) (688) rfl) (fun c_267e c_267 => ?_) (fun c_267e c_267 => ?_)
                            · have q_268 : (1 : Int32).toInt = (1 : Int) := (iL (1) (1) rfl)
                              exact zH_some (show (1 : Int32).toInt = 0 ∨ (1 : Int32).toInt = 1 from by have q_269 : (1 : Int32).toInt = (1 : Int) := (iL (1) (1) rfl); omega)
                            · refine zH_eqc (rfl : a1.toInt = _) (iL (147182) (147182) rfl) (fun c_270e c_270 => ?_) (fun c_270e c_270 => ?_)
                              · have q_271 : (1 : Int32).toInt = (1 : Int) := (iL (1) (1) rfl)
                                exact zH_some (show (1 : Int32).toInt = 0 ∨ (1 : Int32).toInt = 1 from by have q_272 : (1 : Int32).toInt = (1 : Int) := (iL (1) (1) rfl); omega)
                              · refine zH_eqc (rfl : a1.toInt = _) (iL (3764) (3764) rfl) (fun c_273e c_273 => ?_) (fun c_273e c_273 => ?_)
                                · have q_274 : (1 : Int32).toInt = (1 : Int) := (iL (1) (1) rfl)
                                  exact zH_some (show (1 : Int32).toInt = 0 ∨ (1 : Int32).toInt = 1 from by have q_275 : (1 : Int32).toInt = (1 : Int) := (iL (1) (1) rfl); omega)
                                · refine zH_eqc (rfl : a1.toInt = _) (iL (431556) (431556) rfl) (fun c_276e c_276 => ?_) (fun c_276e c_276 => ?_)
                                  · have q_277 : (1 : Int32).toInt = (1 : Int) := (iL (1) (1) rfl)
                                    exact zH_some (show (1 : Int32).toInt = 0 ∨ (1 : Int32).toInt = 1 from by have q_278 : (1 : Int32).toInt = (1 : Int) := (iL (1) (1) rfl); omega)
                                  · refine zH_eqc (rfl : a1.toInt = _) (iL (20459828) (20459828) rfl) (fun c_279e c_279 => ?_) (fun c_279e c_279 => ?_)
                                    · have q_280 : (1 : Int32).toInt = (1 : Int) := (iL (1) (1) rfl)
                                      exact zH_some (show (1 : Int32).toInt = 0 ∨ (1 : Int32).toInt = 1 from by have q_281 : (1 : Int32).toInt = (1 : Int) := (iL (1) (1) rfl); omega)
                                    · refine zH_eqc (rfl : a1.toInt = _) (iL (267308) (267308) rfl) (fun c_282e c_282 => ?_) (fun c_282e c_282 => ?_)
                                      · have q_283 : (1 : Int32).toInt = (1 : Int) := (iL (1) (1) rfl)
                                        exact zH_some (show (1 : Int32).toInt = 0 ∨ (1 : Int32).toInt = 1 from by have q_284 : (1 : Int32).toInt = (1 : Int) := (iL (1) (1) rfl); omega)
                                      · have q_285 : (0 : Int32).toInt = (0 : Int) := (iL (0) (0) rfl)
                                        exact zH_some (show (0 : Int32).toInt = 0 ∨ (0 : Int32).toInt = 1 from by have q_286 : (0 : Int32).toInt = (0 : Int) := (iL (0) (0) rfl); omega)
                  · have q_287 : (1 : Int32).toInt = (1 : Int) := (iL (1) (1) rfl)
                    exact zH_some (show (1 : Int32).toInt = 0 ∨ (1 : Int32).toInt = 1 from by have q_288 : (1 : Int32).toInt = (1 : Int) := (iL (1) (1) rfl); omega)
                · refine zH_eqc (rfl : a1.toInt = _) (iL (486) (486) rfl) (fun c_289e c_289 => ?_) (fun c_289e c_289 => ?_)
                  · unfold fX12_isOwn_n67
                    unfold fX12_isOwn_n72
                    refine zH_eqc (iL (1) (1) rfl) (iL (0) (0) rfl) (fun c_290e c_290 => ?_) (fun c_290e c_290 => ?_)
                    · refine zH_eqc (rfl : a1.toInt = _) (iL (21562475) (21562475) rfl) (fun c_291e c_291 => ?_) (fun c_291e c_291 => ?_)
                      · have q_292 : (1 : Int32).toInt = (1 : Int) := (iL (1) (1) rfl)
                        exact zH_some (show (1 : Int32).toInt = 0 ∨ (1 : Int32).toInt = 1 from by have q_293 : (1 : Int32).toInt = (1 : Int) := (iL (1) (1) rfl); omega)
                      · refine zH_eqc (rfl : a1.toInt = _) (iL (89) (89) rfl) (fun c_294e c_294 => ?_) (fun c_294e c_294 => ?_)
                        · have q_295 : (1 : Int32).toInt = (1 : Int) := (iL (1) (1) rfl)
                          exact zH_some (show (1 : Int32).toInt = 0 ∨ (1 : Int32).toInt = 1 from by have q_296 : (1 : Int32).toInt = (1 : Int) := (iL (1) (1) rfl); omega)
                        · refine zH_eqc (rfl : a1.toInt = _) (iL (398963) (398963) rfl) (fun c_297e c_297 => ?_) (fun c_297e c_297 => ?_)
                          · have q_298 : (1 : Int32).toInt = (1 : Int) := (iL (1) (1) rfl)
                            exact zH_some (show (1 : Int32).toInt = 0 ∨ (1 : Int32).toInt = 1 from by have q_299 : (1 : Int32).toInt = (1 : Int) := (iL (1) (1) rfl); omega)
                          · refine zH_eqc (rfl : a1.toInt = _) (iL (52) (52) rfl) (fun c_300e c_300 => ?_) (fun c_300e c_300 => ?_)
                            · have q_301 : (1 : Int32).toInt = (1 : Int) := (iL (1) (1) rfl)
                              exact zH_some (show (1 : Int32).toInt = 0 ∨ (1 : Int32).toInt = 1 from by have q_302 : (1 : Int32).toInt = (1 : Int) := (iL (1) (1) rfl); omega)
                            · refine zH_eqc (rfl : a1.toInt = _) (iL (688) (688) rfl) (fun c_303e c_303 => ?_) (fun c_303e c_303 => ?_)
                              · have q_304 : (1 : Int32).toInt = (1 : Int) := (iL (1) (1) rfl)
                                exact zH_some (show (1 : Int32).toInt = 0 ∨ (1 : Int32).toInt = 1 from by have q_305 : (1 : Int32).toInt = (1 : Int) := (iL (1) (1) rfl); omega)
                              · refine zH_eqc (rfl : a1.toInt = _) (iL (147182) (147182) rfl) (fun c_306e c_306 => ?_) (fun c_306e c_306 => ?_)
                                · have q_307 : (1 : Int32).toInt = (1 : Int) := (iL (1) (1) rfl)
                                  exact zH_some (show (1 : Int32).toInt = 0 ∨ (1 : Int32).toInt = 1 from by have q_308 : (1 : Int32).toInt = (1 : Int) := (iL (1) (1) rfl); omega)
                                · refine zH_eqc (rfl : a1.toInt = _) (iL (3764) (3764) rfl) (fun c_309e c_309 => ?_) (fun c_309e c_309 => ?_)
                                  · have q_310 : (1 : Int32).toInt = (1 : Int) := (iL (1) (1) rfl)
                                    exact zH_some (show (1 : Int32).toInt = 0 ∨ (1 : Int32).toInt = 1 from by have q_311 : (1 : Int32).toInt = (1 : Int) := (iL (1) (1) rfl); omega)
                                  · refine zH_eqc (rfl : a1.toInt = _) (iL (431556) (431556) rfl) (fun c_312e c_312 => ?_) (fun c_312e c_312 => ?_)
                                    · have q_313 : (1 : Int32).toInt = (1 : Int) := (iL (1) (1) rfl)
                                      exact zH_some (show (1 : Int32).toInt = 0 ∨ (1 : Int32).toInt = 1 from by have q_314 : (1 : Int32).toInt = (1 : Int) := (iL (1) (1) rfl); omega)
                                    · refine zH_eqc (rfl : a1.toInt = _) (iL (20459828) (20459828) rfl) (fun c_315e c_315 => ?_) (fun c_315e c_315 => ?_)
                                      · have q_316 : (1 : Int32).toInt = (1 : Int) := (iL (1) (1) rfl)
                                        exact zH_some (show (1 : Int32).toInt = 0 ∨ (1 : Int32).toInt = 1 from by have q_317 : (1 : Int32).toInt = (1 : Int) := (iL (1) (1) rfl); omega)
                                      · refine zH_eqc (rfl : a1.toInt = _) (iL (267308) (267308) rfl) (fun c_318e c_318 => ?_) (fun c_318e c_318 => ?_)
                                        · have q_319 : (1 : Int32).toInt = (1 : Int) := (iL (1) (1) rfl)
                                          exact zH_some (show (1 : Int32).toInt = 0 ∨ (1 : Int32).toInt = 1 from by have q_320 : (1 : Int32).toInt = (1 : Int) := (iL (1) (1) rfl); omega)
                                        · have q_321 : (0 : Int32).toInt = (0 : Int) := (iL (0) (0) rfl)
                                          exact zH_some (show (0 : Int32).toInt = 0 ∨ (0 : Int32).toInt = 1 from by have q_322 : (0 : Int32).toInt = (0 : Int) := (iL (0) (0) rfl); omega)
                    · have q_323 : (1 : Int32).toInt = (1 : Int) := (iL (1) (1) rfl)
                      exact zH_some (show (1 : Int32).toInt = 0 ∨ (1 : Int32).toInt = 1 from by have q_324 : (1 : Int32).toInt = (1 : Int) := (iL (1) (1) rfl); omega)
                  · refine zH_eqc (rfl : a1.toInt = _) (iL (769604) (769604) rfl) (fun c_325e c_325 => ?_) (fun c_325e c_325 => ?_)
                    · unfold fX12_isOwn_n67
                      unfold fX12_isOwn_n72
                      refine zH_eqc (iL (1) (1) rfl) (iL (0) (0) rfl) (fun c_326e c_326 => ?_) (fun c_326e c_326 => ?_)
                      · refine zH_eqc (rfl : a1.toInt = _) (iL (21562475) (21562475) rfl) (fun c_327e c_327 => ?_) (fun c_327e c_327 => ?_)
                        · have q_328 : (1 : Int32).toInt = (1 : Int) := (iL (1) (1) rfl)
                          exact zH_some (show (1 : Int32).toInt = 0 ∨ (1 : Int32).toInt = 1 from by have q_329 : (1 : Int32).toInt = (1 : Int) := (iL (1) (1) rfl); omega)
                        · refine zH_eqc (rfl : a1.toInt = _) (iL (89) (89) rfl) (fun c_330e c_330 => ?_) (fun c_330e c_330 => ?_)
                          · have q_331 : (1 : Int32).toInt = (1 : Int) := (iL (1) (1) rfl)
                            exact zH_some (show (1 : Int32).toInt = 0 ∨ (1 : Int32).toInt = 1 from by have q_332 : (1 : Int32).toInt = (1 : Int) := (iL (1) (1) rfl); omega)
                          · refine zH_eqc (rfl : a1.toInt = _) (iL (398963) (398963) rfl) (fun c_333e c_333 => ?_) (fun c_333e c_333 => ?_)
                            · have q_334 : (1 : Int32).toInt = (1 : Int) := (iL (1) (1) rfl)
                              exact zH_some (show (1 : Int32).toInt = 0 ∨ (1 : Int32).toInt = 1 from by have q_335 : (1 : Int32).toInt = (1 : Int) := (iL (1) (1) rfl); omega)
                            · refine zH_eqc (rfl : a1.toInt = _) (iL (52) (52) rfl) (fun c_336e c_336 => ?_) (fun c_336e c_336 => ?_)
                              · have q_337 : (1 : Int32).toInt = (1 : Int) := (iL (1) (1) rfl)
                                exact zH_some (show (1 : Int32).toInt = 0 ∨ (1 : Int32).toInt = 1 from by have q_338 : (1 : Int32).toInt = (1 : Int) := (iL (1) (1) rfl); omega)
                              · refine zH_eqc (rfl : a1.toInt = _) (iL (688) (688) rfl) (fun c_339e c_339 => ?_) (fun c_339e c_339 => ?_)
                                · have q_340 : (1 : Int32).toInt = (1 : Int) := (iL (1) (1) rfl)
                                  exact zH_some (show (1 : Int32).toInt = 0 ∨ (1 : Int32).toInt = 1 from by have q_341 : (1 : Int32).toInt = (1 : Int) := (iL (1) (1) rfl); omega)
                                · refine zH_eqc (rfl : a1.toInt = _) (iL (147182) (147182) rfl) (fun c_342e c_342 => ?_) (fun c_342e c_342 => ?_)
                                  · have q_343 : (1 : Int32).toInt = (1 : Int) := (iL (1) (1) rfl)
                                    exact zH_some (show (1 : Int32).toInt = 0 ∨ (1 : Int32).toInt = 1 from by have q_344 : (1 : Int32).toInt = (1 : Int) := (iL (1) (1) rfl); omega)
                                  · refine zH_eqc (rfl : a1.toInt = _) (iL (3764) (3764) rfl) (fun c_345e c_345 => ?_) (fun c_345e c_345 => ?_)
                                    · have q_346 : (1 : Int32).toInt = (1 : Int) := (iL (1) (1) rfl)
                                      exact zH_some (show (1 : Int32).toInt = 0 ∨ (1 : Int32).toInt = 1 from by have q_347 : (1 : Int32).toInt = (1 : Int) := (iL (1) (1) rfl); omega)
                                    · refine zH_eqc (rfl : a1.toInt = _) (iL (431556) (431556) rfl) (fun c_348e c_348 => ?_) (fun c_348e c_348 => ?_)
                                      · have q_349 : (1 : Int32).toInt = (1 : Int) := (iL (1) (1) rfl)
                                        exact zH_some (show (1 : Int32).toInt = 0 ∨ (1 : Int32).toInt = 1 from by have q_350 : (1 : Int32).toInt = (1 : Int) := (iL (1) (1) rfl); omega)
                                      · refine zH_eqc (rfl : a1.toInt = _) (iL (20459828) (20459828) rfl) (fun c_351e c_351 => ?_) (fun c_351e c_351 => ?_)
                                        · have q_352 : (1 : Int32).toInt = (1 : Int) := (iL (1) (1) rfl)
                                          exact zH_some (show (1 : Int32).toInt = 0 ∨ (1 : Int32).toInt = 1 from by have q_353 : (1 : Int32).toInt = (1 : Int) := (iL (1) (1) rfl); omega)
                                        · refine zH_eqc (rfl : a1.toInt = _) (iL (267308) (267308) rfl) (fun c_354e c_354 => ?_) (fun c_354e c_354 => ?_)
                                          · have q_355 : (1 : Int32).toInt = (1 : Int) := (iL (1) (1) rfl)
                                            exact zH_some (show (1 : Int32).toInt = 0 ∨ (1 : Int32).toInt = 1 from by have q_356 : (1 : Int32).toInt = (1 : Int) := (iL (1) (1) rfl); omega)
                                          · have q_357 : (0 : Int32).toInt = (0 : Int) := (iL (0) (0) rfl)
                                            exact zH_some (show (0 : Int32).toInt = 0 ∨ (0 : Int32).toInt = 1 from by have q_358 : (0 : Int32).toInt = (0 : Int) := (iL (0) (0) rfl); omega)
                      · have q_359 : (1 : Int32).toInt = (1 : Int) := (iL (1) (1) rfl)
                        exact zH_some (show (1 : Int32).toInt = 0 ∨ (1 : Int32).toInt = 1 from by have q_360 : (1 : Int32).toInt = (1 : Int) := (iL (1) (1) rfl); omega)
                    · refine zH_eqc (rfl : a1.toInt = _) (iL (20186693) (20186693) rfl) (fun c_361e c_361 => ?_) (fun c_361e c_361 => ?_)
                      · unfold fX12_isOwn_n67
                        unfold fX12_isOwn_n72
                        refine zH_eqc (iL (1) (1) rfl) (iL (0) (0) rfl) (fun c_362e c_362 => ?_) (fun c_362e c_362 => ?_)
                        · refine zH_eqc (rfl : a1.toInt = _) (iL (21562475) (21562475) rfl) (fun c_363e c_363 => ?_) (fun c_363e c_363 => ?_)
                          · have q_364 : (1 : Int32).toInt = (1 : Int) := (iL (1) (1) rfl)
                            exact zH_some (show (1 : Int32).toInt = 0 ∨ (1 : Int32).toInt = 1 from by have q_365 : (1 : Int32).toInt = (1 : Int) := (iL (1) (1) rfl); omega)
                          · refine zH_eqc (rfl : a1.toInt = _) (iL (89) (89) rfl) (fun c_366e c_366 => ?_) (fun c_366e c_366 => ?_)
                            · have q_367 : (1 : Int32).toInt = (1 : Int) := (iL (1) (1) rfl)
                              exact zH_some (show (1 : Int32).toInt = 0 ∨ (1 : Int32).toInt = 1 from by have q_368 : (1 : Int32).toInt = (1 : Int) := (iL (1) (1) rfl); omega)
                            · refine zH_eqc (rfl : a1.toInt = _) (iL (398963) (398963) rfl) (fun c_369e c_369 => ?_) (fun c_369e c_369 => ?_)
                              · have q_370 : (1 : Int32).toInt = (1 : Int) := (iL (1) (1) rfl)
                                exact zH_some (show (1 : Int32).toInt = 0 ∨ (1 : Int32).toInt = 1 from by have q_371 : (1 : Int32).toInt = (1 : Int) := (iL (1) (1) rfl); omega)
                              · refine zH_eqc (rfl : a1.toInt = _) (iL (52) (52) rfl) (fun c_372e c_372 => ?_) (fun c_372e c_372 => ?_)
                                · have q_373 : (1 : Int32).toInt = (1 : Int) := (iL (1) (1) rfl)
                                  exact zH_some (show (1 : Int32).toInt = 0 ∨ (1 : Int32).toInt = 1 from by have q_374 : (1 : Int32).toInt = (1 : Int) := (iL (1) (1) rfl); omega)
                                · refine zH_eqc (rfl : a1.toInt = _) (iL (688) (688) rfl) (fun c_375e c_375 => ?_) (fun c_375e c_375 => ?_)
                                  · have q_376 : (1 : Int32).toInt = (1 : Int) := (iL (1) (1) rfl)
                                    exact zH_some (show (1 : Int32).toInt = 0 ∨ (1 : Int32).toInt = 1 from by have q_377 : (1 : Int32).toInt = (1 : Int) := (iL (1) (1) rfl); omega)
                                  · refine zH_eqc (rfl : a1.toInt = _) (iL (147182) (147182) rfl) (fun c_378e c_378 => ?_) (fun c_378e c_378 => ?_)
                                    · have q_379 : (1 : Int32).toInt = (1 : Int) := (iL (1) (1) rfl)
                                      exact zH_some (show (1 : Int32).toInt = 0 ∨ (1 : Int32).toInt = 1 from by have q_380 : (1 : Int32).toInt = (1 : Int) := (iL (1) (1) rfl); omega)
                                    · refine zH_eqc (rfl : a1.toInt = _) (iL (3764) (3764) rfl) (fun c_381e c_381 => ?_) (fun c_381e c_381 => ?_)
                                      · have q_382 : (1 : Int32).toInt = (1 : Int) := (iL (1) (1) rfl)
                                        exact zH_some (show (1 : Int32).toInt = 0 ∨ (1 : Int32).toInt = 1 from by have q_383 : (1 : Int32).toInt = (1 : Int) := (iL (1) (1) rfl); omega)
                                      · refine zH_eqc (rfl : a1.toInt = _) (iL (431556) (431556) rfl) (fun c_384e c_384 => ?_) (fun c_384e c_384 => ?_)
                                        · have q_385 : (1 : Int32).toInt = (1 : Int) := (iL (1) (1) rfl)
                                          exact zH_some (show (1 : Int32).toInt = 0 ∨ (1 : Int32).toInt = 1 from by have q_386 : (1 : Int32).toInt = (1 : Int) := (iL (1) (1) rfl); omega)
                                        · refine zH_eqc (rfl : a1.toInt = _) (iL (20459828) (20459828) rfl) (fun c_387e c_387 => ?_) (fun c_387e c_387 => ?_)
                                          · have q_388 : (1 : Int32).toInt = (1 : Int) := (iL (1) (1) rfl)
                                            exact zH_some (show (1 : Int32).toInt = 0 ∨ (1 : Int32).toInt = 1 from by have q_389 : (1 : Int32).toInt = (1 : Int) := (iL (1) (1) rfl); omega)
                                          · refine zH_eqc (rfl : a1.toInt = _) (iL (267308) (267308) rfl) (fun c_390e c_390 => ?_) (fun c_390e c_390 => ?_)
                                            · have q_391 : (1 : Int32).toInt = (1 : Int) := (iL (1) (1) rfl)
                                              exact zH_some (show (1 : Int32).toInt = 0 ∨ (1 : Int32).toInt = 1 from by have q_392 : (1 : Int32).toInt = (1 : Int) := (iL (1) (1) rfl); omega)
                                            · have q_393 : (0 : Int32).toInt = (0 : Int) := (iL (0) (0) rfl)
                                              exact zH_some (show (0 : Int32).toInt = 0 ∨ (0 : Int32).toInt = 1 from by have q_394 : (0 : Int32).toInt = (0 : Int) := (iL (0) (0) rfl); omega)
                        · have q_395 : (1 : Int32).toInt = (1 : Int) := (iL (1) (1) rfl)
                          exact zH_some (show (1 : Int32).toInt = 0 ∨ (1 : Int32).toInt = 1 from by have q_396 : (1 : Int32).toInt = (1 : Int) := (iL (1) (1) rfl); omega)
                      · unfold fX12_isOwn_n72
                        refine zH_eqc (iL (0) (0) rfl) (iL (0) (0) rfl) (fun c_397e c_397 => ?_) (fun c_397e c_397 => ?_)
                        · refine zH_eqc (rfl : a1.toInt = _) (iL (21562475) (21562475) rfl) (fun c_398e c_398 => ?_) (fun c_398e c_398 => ?_)
                          · have q_399 : (1 : Int32).toInt = (1 : Int) := (iL (1) (1) rfl)
                            exact zH_some (show (1 : Int32).toInt = 0 ∨ (1 : Int32).toInt = 1 from by have q_400 : (1 : Int32).toInt = (1 : Int) := (iL (1) (1) rfl); omega)
                          · refine zH_eqc (rfl : a1.toInt = _) (iL (89) (89) rfl) (fun c_401e c_401 => ?_) (fun c_401e c_401 => ?_)
                            · have q_402 : (1 : Int32).toInt = (1 : Int) := (iL (1) (1) rfl)
                              exact zH_some (show (1 : Int32).toInt = 0 ∨ (1 : Int32).toInt = 1 from by have q_403 : (1 : Int32).toInt = (1 : Int) := (iL (1) (1) rfl); omega)
                            · refine zH_eqc (rfl : a1.toInt = _) (iL (398963) (398963) rfl) (fun c_404e c_404 => ?_) (fun c_404e c_404 => ?_)
                              · have q_405 : (1 : Int32).toInt = (1 : Int) := (iL (1) (1) rfl)
                                exact zH_some (show (1 : Int32).toInt = 0 ∨ (1 : Int32).toInt = 1 from by have q_406 : (1 : Int32).toInt = (1 : Int) := (iL (1) (1) rfl); omega)
                              · refine zH_eqc (rfl : a1.toInt = _) (iL (52) (52) rfl) (fun c_407e c_407 => ?_) (fun c_407e c_407 => ?_)
                                · have q_408 : (1 : Int32).toInt = (1 : Int) := (iL (1) (1) rfl)
                                  exact zH_some (show (1 : Int32).toInt = 0 ∨ (1 : Int32).toInt = 1 from by have q_409 : (1 : Int32).toInt = (1 : Int) := (iL (1) (1) rfl); omega)
                                · refine zH_eqc (rfl : a1.toInt = _) (iL (688) (688) rfl) (fun c_410e c_410 => ?_) (fun c_410e c_410 => ?_)
                                  · have q_411 : (1 : Int32).toInt = (1 : Int) := (iL (1) (1) rfl)
                                    exact zH_some (show (1 : Int32).toInt = 0 ∨ (1 : Int32).toInt = 1 from by have q_412 : (1 : Int32).toInt = (1 : Int) := (iL (1) (1) rfl); omega)
                                  · refine zH_eqc (rfl : a1.toInt = _) (iL (147182) (147182) rfl) (fun c_413e c_413 => ?_) (fun c_413e c_413 => ?_)
                                    · have q_414 : (1 : Int32).toInt = (1 : Int) := (iL (1) (1) rfl)
                                      exact zH_some (show (1 : Int32).toInt = 0 ∨ (1 : Int32).toInt = 1 from by have q_415 : (1 : Int32).toInt = (1 : Int) := (iL (1) (1) rfl); omega)
                                    · refine zH_eqc (rfl : a1.toInt = _) (iL (3764) (3764) rfl) (fun c_416e c_416 => ?_) (fun c_416e c_416 => ?_)
                                      · have q_417 : (1 : Int32).toInt = (1 : Int) := (iL (1) (1) rfl)
                                        exact zH_some (show (1 : Int32).toInt = 0 ∨ (1 : Int32).toInt = 1 from by have q_418 : (1 : Int32).toInt = (1 : Int) := (iL (1) (1) rfl); omega)
                                      · refine zH_eqc (rfl : a1.toInt = _) (iL (431556) (431556) rfl) (fun c_419e c_419 => ?_) (fun c_419e c_419 => ?_)
                                        · have q_420 : (1 : Int32).toInt = (1 : Int) := (iL (1) (1) rfl)
                                          exact zH_some (show (1 : Int32).toInt = 0 ∨ (1 : Int32).toInt = 1 from by have q_421 : (1 : Int32).toInt = (1 : Int) := (iL (1) (1) rfl); omega)
                                        · refine zH_eqc (rfl : a1.toInt = _) (iL (20459828) (20459828) rfl) (fun c_422e c_422 => ?_) (fun c_422e c_422 => ?_)
                                          · have q_423 : (1 : Int32).toInt = (1 : Int) := (iL (1) (1) rfl)
                                            exact zH_some (show (1 : Int32).toInt = 0 ∨ (1 : Int32).toInt = 1 from by have q_424 : (1 : Int32).toInt = (1 : Int) := (iL (1) (1) rfl); omega)
                                          · refine zH_eqc (rfl : a1.toInt = _) (iL (267308) (267308) rfl) (fun c_425e c_425 => ?_) (fun c_425e c_425 => ?_)
                                            · have q_426 : (1 : Int32).toInt = (1 : Int) := (iL (1) (1) rfl)
                                              exact zH_some (show (1 : Int32).toInt = 0 ∨ (1 : Int32).toInt = 1 from by have q_427 : (1 : Int32).toInt = (1 : Int) := (iL (1) (1) rfl); omega)
                                            · have q_428 : (0 : Int32).toInt = (0 : Int) := (iL (0) (0) rfl)
                                              exact zH_some (show (0 : Int32).toInt = 0 ∨ (0 : Int32).toInt = 1 from by have q_429 : (0 : Int32).toInt = (0 : Int) := (iL (0) (0) rfl); omega)
                        · have q_430 : (1 : Int32).toInt = (1 : Int) := (iL (1) (1) rfl)
                          exact zH_some (show (1 : Int32).toInt = 0 ∨ (1 : Int32).toInt = 1 from by have q_431 : (1 : Int32).toInt = (1 : Int) := (iL (1) (1) rfl); omega)
theorem tX12_isFine  {μ : gM}    : zH (fX12_isFine μ) (fun v => (v.toInt = 0 ∨ v.toInt = 1) ∧ (v.toInt = 1 → (μ 267 6).toInt = 0) ∧ (v.toInt = 0 → (μ 267 6).toInt ≠ 0)) := by
  unfold fX12_isFine
  refine zH_eqc (rfl : (μ 267 6).toInt = _) (iL (0) (0) rfl) (fun c_1e c_1 => ?_) (fun c_1e c_1 => ?_)
  · have q_2 : (1 : Int32).toInt = (1 : Int) := (iL (1) (1) rfl)
    exact zH_some (show ((1 : Int32).toInt = 0 ∨ (1 : Int32).toInt = 1) ∧ ((1 : Int32).toInt = 1 → (μ 267 6).toInt = 0) ∧ ((1 : Int32).toInt = 0 → (μ 267 6).toInt ≠ 0) from by have q_3 : (1 : Int32).toInt = (1 : Int) := (iL (1) (1) rfl); omega)
  · have q_4 : (0 : Int32).toInt = (0 : Int) := (iL (0) (0) rfl)
    exact zH_some (show ((0 : Int32).toInt = 0 ∨ (0 : Int32).toInt = 1) ∧ ((0 : Int32).toInt = 1 → (μ 267 6).toInt = 0) ∧ ((0 : Int32).toInt = 0 → (μ 267 6).toInt ≠ 0) from by have q_5 : (0 : Int32).toInt = (0 : Int) := (iL (0) (0) rfl); omega)
theorem tX12_fail {C : gM} {a1 : Int32} {a2 : Int32} {μ : gM}  (hC : hK C) (h : KL C μ) (g0 : a1.toInt ≠ 0) : zH (fX12_fail a1 a2 μ) (fun ν => KL C ν ∧ ((ν 267 6).toInt ≠ 0 ∧ (ν 267 4).toInt = (μ 267 4).toInt ∧ (ν 267 11).toInt = (μ 267 11).toInt)) := by
  unfold fX12_fail
  refine zH_eqc (rfl : (μ 267 6).toInt = _) (iL (0) (0) rfl) (fun c_1e c_1 => ?_) (fun c_1e c_1 => ?_)
  · refine zH_lt (fun μ_2 e_3 => ?_)
    have h_4 : KL C μ_2 := by rw [e_3]; exact KL.up h rfl (fun e => absurd e (by decide)) (fun e => absurd e (by decide))
    have q_5 : (μ_2 267 4).toInt = (μ 267 4).toInt := by rw [e_3]; first | done | rfl
    have q_6 : (μ_2 267 6).toInt = a1.toInt := by rw [e_3]; exact (show (a1).toInt = _ from (rfl : a1.toInt = _))
    have q_7 : (μ_2 267 11).toInt = (μ 267 11).toInt := by rw [e_3]; first | done | rfl
    refine zH_lt (fun μ_8 e_9 => ?_)
    have h_10 : KL C μ_8 := by rw [e_9]; exact KL.up h_4 rfl (fun e => absurd e (by decide)) (fun e => absurd e (by decide))
    have q_11 : (μ_8 267 4).toInt = (μ_2 267 4).toInt := by rw [e_9]; first | done | rfl
    have q_12 : (μ_8 267 6).toInt = (μ_2 267 6).toInt := by rw [e_9]; first | done | rfl
    have q_13 : (μ_8 267 11).toInt = (μ_2 267 11).toInt := by rw [e_9]; first | done | rfl
    exact zH_some ⟨h_10, show (μ_8 267 6).toInt ≠ 0 ∧ (μ_8 267 4).toInt = (μ 267 4).toInt ∧ (μ_8 267 11).toInt = (μ 267 11).toInt from by omega⟩
  · exact zH_some ⟨h, show (μ 267 6).toInt ≠ 0 ∧ (μ 267 4).toInt = (μ 267 4).toInt ∧ (μ 267 11).toInt = (μ 267 11).toInt from by omega⟩
theorem tX12_isLetter {C : gM} {a1 : Int32} {μ : gM}  (hC : hK C) (h : KL C μ) (g0 : 0 ≤ a1.toInt) : zH (fX12_isLetter a1 μ) (fun v => (v.toInt = 0 ∨ v.toInt = 1) ∧ (v.toInt = 1 → a1.toInt < (μ 267 3).toInt)) := by
  unfold fX12_isLetter
  have f_2 : (0 ≤ (μ 267 3).toInt ∧ (μ 267 3).toInt ≤ 1500) ∧ (μ 267 3).toInt = (C 267 3).toInt := h.szI hC
  refine zH_lec (rfl : (μ 267 3).toInt = _) (rfl : a1.toInt = _) (fun c_1 => ?_) (fun c_1 => ?_)
  · have q_3 : (0 : Int32).toInt = (0 : Int) := (iL (0) (0) rfl)
    exact zH_some (show ((0 : Int32).toInt = 0 ∨ (0 : Int32).toInt = 1) ∧ ((0 : Int32).toInt = 1 → a1.toInt < (μ 267 3).toInt) from by have q_4 : (0 : Int32).toInt = (0 : Int) := (iL (0) (0) rfl); omega)
  · refine zH_ck (zIn (rfl : a1.toInt = _) (by omega) (by omega)) ?_
    refine zH_bd (tX12_isIn (i64 (rfl : (μ 268 (a1).toNatClampNeg).toInt = _)) (iLL (97) (97) rfl) (iLL (122) (122) rfl)) (fun x_5 p_6 => ?_)
    have q_7 : (x_5.toInt = 0 ∨ x_5.toInt = 1) ∧ (x_5.toInt = 1 → (97 : Int) ≤ (μ 268 (a1).toNatClampNeg).toInt ∧ (μ 268 (a1).toNatClampNeg).toInt ≤ (122 : Int)) ∧ (x_5.toInt = 0 → (μ 268 (a1).toNatClampNeg).toInt < (97 : Int) ∨ (122 : Int) < (μ 268 (a1).toNatClampNeg).toInt) := p_6
    refine zH_eqc (rfl : x_5.toInt = _) (iL (0) (0) rfl) (fun c_8e c_8 => ?_) (fun c_8e c_8 => ?_)
    · have q_9 : (0 : Int32).toInt = (0 : Int) := (iL (0) (0) rfl)
      exact zH_some (show ((0 : Int32).toInt = 0 ∨ (0 : Int32).toInt = 1) ∧ ((0 : Int32).toInt = 1 → a1.toInt < (μ 267 3).toInt) from by have q_10 : (0 : Int32).toInt = (0 : Int) := (iL (0) (0) rfl); omega)
    · have q_11 : (1 : Int32).toInt = (1 : Int) := (iL (1) (1) rfl)
      exact zH_some (show ((1 : Int32).toInt = 0 ∨ (1 : Int32).toInt = 1) ∧ ((1 : Int32).toInt = 1 → a1.toInt < (μ 267 3).toInt) from by have q_12 : (1 : Int32).toInt = (1 : Int) := (iL (1) (1) rfl); omega)
theorem tX12_isDigit {C : gM} {a1 : Int32} {μ : gM}  (hC : hK C) (h : KL C μ) (g0 : 0 ≤ a1.toInt) : zH (fX12_isDigit a1 μ) (fun v => (v.toInt = 0 ∨ v.toInt = 1) ∧ (v.toInt = 1 → a1.toInt < (μ 267 3).toInt)) := by
  unfold fX12_isDigit
  have f_2 : (0 ≤ (μ 267 3).toInt ∧ (μ 267 3).toInt ≤ 1500) ∧ (μ 267 3).toInt = (C 267 3).toInt := h.szI hC
  refine zH_lec (rfl : (μ 267 3).toInt = _) (rfl : a1.toInt = _) (fun c_1 => ?_) (fun c_1 => ?_)
  · have q_3 : (0 : Int32).toInt = (0 : Int) := (iL (0) (0) rfl)
    exact zH_some (show ((0 : Int32).toInt = 0 ∨ (0 : Int32).toInt = 1) ∧ ((0 : Int32).toInt = 1 → a1.toInt < (μ 267 3).toInt) from by have q_4 : (0 : Int32).toInt = (0 : Int) := (iL (0) (0) rfl); omega)
  · refine zH_ck (zIn (rfl : a1.toInt = _) (by omega) (by omega)) ?_
    refine zH_bd (tX12_isIn (i64 (rfl : (μ 268 (a1).toNatClampNeg).toInt = _)) (iLL (48) (48) rfl) (iLL (57) (57) rfl)) (fun x_5 p_6 => ?_)
    have q_7 : (x_5.toInt = 0 ∨ x_5.toInt = 1) ∧ (x_5.toInt = 1 → (48 : Int) ≤ (μ 268 (a1).toNatClampNeg).toInt ∧ (μ 268 (a1).toNatClampNeg).toInt ≤ (57 : Int)) ∧ (x_5.toInt = 0 → (μ 268 (a1).toNatClampNeg).toInt < (48 : Int) ∨ (57 : Int) < (μ 268 (a1).toNatClampNeg).toInt) := p_6
    refine zH_eqc (rfl : x_5.toInt = _) (iL (0) (0) rfl) (fun c_8e c_8 => ?_) (fun c_8e c_8 => ?_)
    · have q_9 : (0 : Int32).toInt = (0 : Int) := (iL (0) (0) rfl)
      exact zH_some (show ((0 : Int32).toInt = 0 ∨ (0 : Int32).toInt = 1) ∧ ((0 : Int32).toInt = 1 → a1.toInt < (μ 267 3).toInt) from by have q_10 : (0 : Int32).toInt = (0 : Int) := (iL (0) (0) rfl); omega)
    · have q_11 : (1 : Int32).toInt = (1 : Int) := (iL (1) (1) rfl)
      exact zH_some (show ((1 : Int32).toInt = 0 ∨ (1 : Int32).toInt = 1) ∧ ((1 : Int32).toInt = 1 → a1.toInt < (μ 267 3).toInt) from by have q_12 : (1 : Int32).toInt = (1 : Int) := (iL (1) (1) rfl); omega)
theorem tX12_next_l0 {C : gM}    (hC : hK C) : ∀ (n : Nat) (μ : gM), KL C μ → 1500 - (μ 267 4).toInt < (n : Int) → zH (fX12_next_l0  n μ) (fun r => KL C r.2 ∧ (r.1.toInt = (r.2 267 4).toInt ∧ (r.2 267 6).toInt = (μ 267 6).toInt ∧ (r.2 267 11).toInt = (μ 267 11).toInt)) := by
  intro n
  induction n with
  | zero =>
    intro μ  h gm
    have f_1 : 0 ≤ (μ 267 4).toInt ∧ (μ 267 4).toInt ≤ 1500 := h.2.2.1
    exact absurd gm (by omega)
  | succ n ih =>
    intro μ  h gm
    rw [fX12_next_l0]
    have f_2 : 0 ≤ (μ 267 4).toInt ∧ (μ 267 4).toInt ≤ 1500 := h.2.2.1
    have f_4 : (0 ≤ (μ 267 3).toInt ∧ (μ 267 3).toInt ≤ 1500) ∧ (μ 267 3).toInt = (C 267 3).toInt := h.szI hC
    refine zH_lec (rfl : (μ 267 3).toInt = _) (rfl : (μ 267 4).toInt = _) (fun c_3 => ?_) (fun c_3 => ?_)
    · exact zH_some ⟨h, show (μ 267 4).toInt = (μ 267 4).toInt ∧ (μ 267 6).toInt = (μ 267 6).toInt ∧ (μ 267 11).toInt = (μ 267 11).toInt from by have q_5 : ((μ 267 4)).toInt = (μ 267 4).toInt := (rfl : (μ 267 4).toInt = _); omega⟩
    · refine zH_ck (zIn (rfl : (μ 267 4).toInt = _) (by omega) (by omega)) ?_
      refine zH_eqc (rfl : (μ 268 ((μ 267 4)).toNatClampNeg).toInt = _) (iL (32) (32) rfl) (fun c_6e c_6 => ?_) (fun c_6e c_6 => ?_)
      · unfold fX12_next_n39
        refine zH_lt (fun μ_7 e_8 => ?_)
        have h_9 : KL C μ_7 := by rw [e_8]; exact KL.up h rfl (fun _ => show (0 : Int) ≤ ((μ 267 4) + (1 : Int32)).toInt ∧ ((μ 267 4) + (1 : Int32)).toInt ≤ 1500 from by have q_10 : ((μ 267 4) + (1 : Int32)).toInt = ((μ 267 4).toInt + (1 : Int)) := (iA (rfl : (μ 267 4).toInt = _) (iL (1) (1) rfl) (by omega) (by omega)); omega) (fun e => absurd e (by decide))
        have q_11 : (μ_7 267 4).toInt = ((μ 267 4).toInt + (1 : Int)) := by rw [e_8]; exact (show ((μ 267 4) + (1 : Int32)).toInt = _ from (iA (rfl : (μ 267 4).toInt = _) (iL (1) (1) rfl) (by omega) (by omega)))
        have q_12 : (μ_7 267 6).toInt = (μ 267 6).toInt := by rw [e_8]; first | done | rfl
        have q_13 : (μ_7 267 11).toInt = (μ 267 11).toInt := by rw [e_8]; first | done | rfl
        exact zH_mono (ih μ_7 h_9 (by omega)) (fun r_15 p_14 => ⟨p_14.1, show (r_15.1).toInt = ((r_15.2) 267 4).toInt ∧ ((r_15.2) 267 6).toInt = (μ 267 6).toInt ∧ ((r_15.2) 267 11).toInt = (μ 267 11).toInt from by have q_16 : (r_15.1).toInt = ((r_15.2) 267 4).toInt ∧ ((r_15.2) 267 6).toInt = (μ_7 267 6).toInt ∧ ((r_15.2) 267 11).toInt = (μ_7 267 11).toInt := p_14.2; omega⟩)
      · refine zH_ck (zIn (rfl : (μ 267 4).toInt = _) (by omega) (by omega)) ?_
        refine zH_eqc (rfl : (μ 268 ((μ 267 4)).toNatClampNeg).toInt = _) (iL (10) (10) rfl) (fun c_17e c_17 => ?_) (fun c_17e c_17 => ?_)
        · unfold fX12_next_n39
          refine zH_lt (fun μ_18 e_19 => ?_)
          have h_20 : KL C μ_18 := by rw [e_19]; exact KL.up h rfl (fun _ => show (0 : Int) ≤ ((μ 267 4) + (1 : Int32)).toInt ∧ ((μ 267 4) + (1 : Int32)).toInt ≤ 1500 from by have q_21 : ((μ 267 4) + (1 : Int32)).toInt = ((μ 267 4).toInt + (1 : Int)) := (iA (rfl : (μ 267 4).toInt = _) (iL (1) (1) rfl) (by omega) (by omega)); omega) (fun e => absurd e (by decide))
          have q_22 : (μ_18 267 4).toInt = ((μ 267 4).toInt + (1 : Int)) := by rw [e_19]; exact (show ((μ 267 4) + (1 : Int32)).toInt = _ from (iA (rfl : (μ 267 4).toInt = _) (iL (1) (1) rfl) (by omega) (by omega)))
          have q_23 : (μ_18 267 6).toInt = (μ 267 6).toInt := by rw [e_19]; first | done | rfl
          have q_24 : (μ_18 267 11).toInt = (μ 267 11).toInt := by rw [e_19]; first | done | rfl
          exact zH_mono (ih μ_18 h_20 (by omega)) (fun r_26 p_25 => ⟨p_25.1, show (r_26.1).toInt = ((r_26.2) 267 4).toInt ∧ ((r_26.2) 267 6).toInt = (μ 267 6).toInt ∧ ((r_26.2) 267 11).toInt = (μ 267 11).toInt from by have q_27 : (r_26.1).toInt = ((r_26.2) 267 4).toInt ∧ ((r_26.2) 267 6).toInt = (μ_18 267 6).toInt ∧ ((r_26.2) 267 11).toInt = (μ_18 267 11).toInt := p_25.2; omega⟩)
        · exact zH_some ⟨h, show (μ 267 4).toInt = (μ 267 4).toInt ∧ (μ 267 6).toInt = (μ 267 6).toInt ∧ (μ 267 11).toInt = (μ 267 11).toInt from by have q_28 : ((μ 267 4)).toInt = (μ 267 4).toInt := (rfl : (μ 267 4).toInt = _); omega⟩
theorem tX12_next {C : gM} {μ : gM}  (hC : hK C) (h : KL C μ)  : zH (fX12_next μ) (fun r => KL C r.2 ∧ (r.1.toInt = (r.2 267 4).toInt ∧ (r.2 267 6).toInt = (μ 267 6).toInt ∧ (r.2 267 11).toInt = (μ 267 11).toInt)) := by
  unfold fX12_next
  have f_1 : 0 ≤ (μ 267 4).toInt ∧ (μ 267 4).toInt ≤ 1500 := h.2.2.1
  exact zH_mono (tX12_next_l0 hC 100000 μ h (by omega)) (fun r_3 p_2 => ⟨p_2.1, show (r_3.1).toInt = ((r_3.2) 267 4).toInt ∧ ((r_3.2) 267 6).toInt = (μ 267 6).toInt ∧ ((r_3.2) 267 11).toInt = (μ 267 11).toInt from by have q_4 : r_3.1.toInt = (r_3.2 267 4).toInt ∧ (r_3.2 267 6).toInt = (μ 267 6).toInt ∧ (r_3.2 267 11).toInt = (μ 267 11).toInt := p_2.2; omega⟩)
theorem tX12_isOver {C : gM} {μ : gM}  (hC : hK C) (h : KL C μ)  : zH (fX12_isOver μ) (fun r => KL C r.2 ∧ ((r.1.toInt = 0 ∨ r.1.toInt = 1) ∧ (r.1.toInt = 0 → (r.2 267 4).toInt < (r.2 267 3).toInt) ∧ (r.2 267 6).toInt = (μ 267 6).toInt)) := by
  unfold fX12_isOver
  refine zH_bp (tX12_next hC h) (fun x_1 μ_2 p_3 => ?_)
  have h_4 : KL C μ_2 := p_3.1
  have q_5 : x_1.toInt = (μ_2 267 4).toInt ∧ (μ_2 267 6).toInt = (μ 267 6).toInt ∧ (μ_2 267 11).toInt = (μ 267 11).toInt := p_3.2
  have f_6 : 0 ≤ (μ_2 267 4).toInt ∧ (μ_2 267 4).toInt ≤ 1500 := h_4.2.2.1
  have f_7 : 0 ≤ (μ_2 267 11).toInt ∧ (μ_2 267 11).toInt ≤ 1500 := h_4.2.2.2
  have f_8 : 0 ≤ (μ 267 11).toInt ∧ (μ 267 11).toInt ≤ 1500 := h.2.2.2
  have f_10 : (0 ≤ (μ_2 267 3).toInt ∧ (μ_2 267 3).toInt ≤ 1500) ∧ (μ_2 267 3).toInt = (C 267 3).toInt := h_4.szI hC
  refine zH_ltc (rfl : x_1.toInt = _) (rfl : (μ_2 267 3).toInt = _) (fun c_9 => ?_) (fun c_9 => ?_)
  · have q_11 : (0 : Int32).toInt = (0 : Int) := (iL (0) (0) rfl)
    exact zH_some ⟨h_4, show ((0 : Int32).toInt = 0 ∨ (0 : Int32).toInt = 1) ∧ ((0 : Int32).toInt = 0 → (μ_2 267 4).toInt < (μ_2 267 3).toInt) ∧ (μ_2 267 6).toInt = (μ 267 6).toInt from by have q_12 : ((0 : Int32)).toInt = (0 : Int) := (iL (0) (0) rfl); omega⟩
  · have q_13 : (1 : Int32).toInt = (1 : Int) := (iL (1) (1) rfl)
    exact zH_some ⟨h_4, show ((1 : Int32).toInt = 0 ∨ (1 : Int32).toInt = 1) ∧ ((1 : Int32).toInt = 0 → (μ_2 267 4).toInt < (μ_2 267 3).toInt) ∧ (μ_2 267 6).toInt = (μ 267 6).toInt from by have q_14 : ((1 : Int32)).toInt = (1 : Int) := (iL (1) (1) rfl); omega⟩
theorem tX12_unlike {C : gM} {μ : gM}  (hC : hK C) (h : KL C μ)  : zH (fX12_unlike μ) (fun ν => KL C ν ∧ ((ν 267 6).toInt ≠ 0)) := by
  unfold fX12_unlike
  refine zH_bp (tX12_next hC h) (fun x_1 μ_2 p_3 => ?_)
  have h_4 : KL C μ_2 := p_3.1
  have q_5 : x_1.toInt = (μ_2 267 4).toInt ∧ (μ_2 267 6).toInt = (μ 267 6).toInt ∧ (μ_2 267 11).toInt = (μ 267 11).toInt := p_3.2
  have f_6 : 0 ≤ (μ_2 267 4).toInt ∧ (μ_2 267 4).toInt ≤ 1500 := h_4.2.2.1
  have f_7 : 0 ≤ (μ_2 267 11).toInt ∧ (μ_2 267 11).toInt ≤ 1500 := h_4.2.2.2
  have f_8 : 0 ≤ (μ 267 11).toInt ∧ (μ 267 11).toInt ≤ 1500 := h.2.2.2
  have q_9 : (1 : Int32).toInt = (1 : Int) := (iL (1) (1) rfl)
  refine zH_bd (tX12_fail hC h_4 (by omega)) (fun μ_10 p_11 => ?_)
  have h_12 : KL C μ_10 := p_11.1
  have q_13 : (μ_10 267 6).toInt ≠ 0 ∧ (μ_10 267 4).toInt = (μ_2 267 4).toInt ∧ (μ_10 267 11).toInt = (μ_2 267 11).toInt := p_11.2
  have f_14 : 0 ≤ (μ_10 267 4).toInt ∧ (μ_10 267 4).toInt ≤ 1500 := h_12.2.2.1
  have f_15 : 0 ≤ (μ_10 267 11).toInt ∧ (μ_10 267 11).toInt ≤ 1500 := h_12.2.2.2
  exact zH_some ⟨h_12, show (μ_10 267 6).toInt ≠ 0 from by omega⟩
theorem tX12_takesSign {C : gM} {a1 : Int32} {μ : gM}  (hC : hK C) (h : KL C μ)  : zH (fX12_takesSign a1 μ) (fun r => KL C r.2 ∧ ((r.1.toInt = 0 ∨ r.1.toInt = 1) ∧ (r.2 267 6).toInt = (μ 267 6).toInt)) := by
  unfold fX12_takesSign
  refine zH_bd (tX12_isFine) (fun x_1 p_2 => ?_)
  have q_3 : (x_1.toInt = 0 ∨ x_1.toInt = 1) ∧ (x_1.toInt = 1 → (μ 267 6).toInt = 0) ∧ (x_1.toInt = 0 → (μ 267 6).toInt ≠ 0) := p_2
  refine zH_eqc (rfl : x_1.toInt = _) (iL (0) (0) rfl) (fun c_4e c_4 => ?_) (fun c_4e c_4 => ?_)
  · have q_5 : (0 : Int32).toInt = (0 : Int) := (iL (0) (0) rfl)
    exact zH_some ⟨h, show ((0 : Int32).toInt = 0 ∨ (0 : Int32).toInt = 1) ∧ (μ 267 6).toInt = (μ 267 6).toInt from by have q_6 : ((0 : Int32)).toInt = (0 : Int) := (iL (0) (0) rfl); omega⟩
  · refine zH_bp (tX12_isOver hC h) (fun x_7 μ_8 p_9 => ?_)
    have h_10 : KL C μ_8 := p_9.1
    have q_11 : (x_7.toInt = 0 ∨ x_7.toInt = 1) ∧ (x_7.toInt = 0 → (μ_8 267 4).toInt < (μ_8 267 3).toInt) ∧ (μ_8 267 6).toInt = (μ 267 6).toInt := p_9.2
    have f_12 : 0 ≤ (μ_8 267 4).toInt ∧ (μ_8 267 4).toInt ≤ 1500 := h_10.2.2.1
    have f_13 : (0 ≤ (μ_8 267 3).toInt ∧ (μ_8 267 3).toInt ≤ 1500) ∧ (μ_8 267 3).toInt = (C 267 3).toInt := h_10.szI hC
    refine zH_eqc (rfl : x_7.toInt = _) (iL (0) (0) rfl) (fun c_14e c_14 => ?_) (fun c_14e c_14 => ?_)
    · refine zH_ck (zIn (rfl : (μ_8 267 4).toInt = _) (by omega) (by omega)) ?_
      refine zH_eqc (rfl : (μ_8 268 ((μ_8 267 4)).toNatClampNeg).toInt = _) (rfl : a1.toInt = _) (fun c_15e c_15 => ?_) (fun c_15e c_15 => ?_)
      · refine zH_lt (fun μ_16 e_17 => ?_)
        have h_18 : KL C μ_16 := by rw [e_17]; exact KL.up h_10 rfl (fun _ => show (0 : Int) ≤ ((μ_8 267 4) + (1 : Int32)).toInt ∧ ((μ_8 267 4) + (1 : Int32)).toInt ≤ 1500 from by have q_19 : ((μ_8 267 4) + (1 : Int32)).toInt = ((μ_8 267 4).toInt + (1 : Int)) := (iA (rfl : (μ_8 267 4).toInt = _) (iL (1) (1) rfl) (by omega) (by omega)); omega) (fun e => absurd e (by decide))
        have q_20 : (μ_16 267 4).toInt = ((μ_8 267 4).toInt + (1 : Int)) := by rw [e_17]; exact (show ((μ_8 267 4) + (1 : Int32)).toInt = _ from (iA (rfl : (μ_8 267 4).toInt = _) (iL (1) (1) rfl) (by omega) (by omega)))
        have q_21 : (μ_16 267 6).toInt = (μ_8 267 6).toInt := by rw [e_17]; first | done | rfl
        have q_22 : (μ_16 267 11).toInt = (μ_8 267 11).toInt := by rw [e_17]; first | done | rfl
        have q_23 : (1 : Int32).toInt = (1 : Int) := (iL (1) (1) rfl)
        exact zH_some ⟨h_18, show ((1 : Int32).toInt = 0 ∨ (1 : Int32).toInt = 1) ∧ (μ_16 267 6).toInt = (μ 267 6).toInt from by have q_24 : ((1 : Int32)).toInt = (1 : Int) := (iL (1) (1) rfl); omega⟩
      · have q_25 : (0 : Int32).toInt = (0 : Int) := (iL (0) (0) rfl)
        exact zH_some ⟨h_10, show ((0 : Int32).toInt = 0 ∨ (0 : Int32).toInt = 1) ∧ (μ_8 267 6).toInt = (μ 267 6).toInt from by have q_26 : ((0 : Int32)).toInt = (0 : Int) := (iL (0) (0) rfl); omega⟩
    · have q_27 : (0 : Int32).toInt = (0 : Int) := (iL (0) (0) rfl)
      exact zH_some ⟨h_10, show ((0 : Int32).toInt = 0 ∨ (0 : Int32).toInt = 1) ∧ (μ_8 267 6).toInt = (μ 267 6).toInt from by have q_28 : ((0 : Int32)).toInt = (0 : Int) := (iL (0) (0) rfl); omega⟩
theorem tX12_needsSign {C : gM} {a1 : Int32} {μ : gM}  (hC : hK C) (h : KL C μ)  : zH (fX12_needsSign a1 μ) (fun ν => KL C ν ∧ ((ν 267 6).toInt = 0 → (μ 267 6).toInt = 0)) := by
  unfold fX12_needsSign
  refine zH_bd (tX12_isFine) (fun x_1 p_2 => ?_)
  have q_3 : (x_1.toInt = 0 ∨ x_1.toInt = 1) ∧ (x_1.toInt = 1 → (μ 267 6).toInt = 0) ∧ (x_1.toInt = 0 → (μ 267 6).toInt ≠ 0) := p_2
  refine zH_eqc (rfl : x_1.toInt = _) (iL (0) (0) rfl) (fun c_4e c_4 => ?_) (fun c_4e c_4 => ?_)
  · exact zH_some ⟨h, show (μ 267 6).toInt = 0 → (μ 267 6).toInt = 0 from by omega⟩
  · refine zH_bp (tX12_takesSign hC h) (fun x_5 μ_6 p_7 => ?_)
    have h_8 : KL C μ_6 := p_7.1
    have q_9 : (x_5.toInt = 0 ∨ x_5.toInt = 1) ∧ (μ_6 267 6).toInt = (μ 267 6).toInt := p_7.2
    refine zH_eqc (rfl : x_5.toInt = _) (iL (0) (0) rfl) (fun c_10e c_10 => ?_) (fun c_10e c_10 => ?_)
    · refine zH_bd (tX12_unlike hC h_8) (fun μ_11 p_12 => ?_)
      have h_13 : KL C μ_11 := p_12.1
      have q_14 : (μ_11 267 6).toInt ≠ 0 := p_12.2
      exact zH_some ⟨h_13, show (μ_11 267 6).toInt = 0 → (μ 267 6).toInt = 0 from by omega⟩
    · exact zH_some ⟨h_8, show (μ_6 267 6).toInt = 0 → (μ 267 6).toInt = 0 from by omega⟩
theorem tX12_seesWord_l33 {C : gM}    (hC : hK C) : ∀ (n : Nat) (y1 : Int32) (μ : gM), KL C μ → y1.toInt = (μ 267 4).toInt → 0 ≤ y1.toInt → y1.toInt + (μ 267 11).toInt ≤ 1500 → 1500 - (μ 267 11).toInt < (n : Int) → zH (fX12_seesWord_l33  n y1 μ) (fun r => KL C r.2 ∧ ((r.1.toInt = 0 ∨ r.1.toInt = 1) ∧ (r.2 267 4).toInt + (r.2 267 11).toInt ≤ 1500 ∧ (r.2 267 6).toInt = (μ 267 6).toInt)) := by
  intro n
  induction n with
  | zero =>
    intro y1 μ  h g0 g1 g2 gm
    have f_1 : 0 ≤ (μ 267 11).toInt ∧ (μ 267 11).toInt ≤ 1500 := h.2.2.2
    have f_2 : 0 ≤ (μ 267 4).toInt ∧ (μ 267 4).toInt ≤ 1500 := h.2.2.1
    exact absurd gm (by omega)
  | succ n ih =>
    intro y1 μ  h g0 g1 g2 gm
    rw [fX12_seesWord_l33]
    have f_3 : 0 ≤ (μ 267 11).toInt ∧ (μ 267 11).toInt ≤ 1500 := h.2.2.2
    have f_4 : 0 ≤ (μ 267 4).toInt ∧ (μ 267 4).toInt ≤ 1500 := h.2.2.1
    have q_5 : (y1 + (μ 267 11)).toInt = (y1.toInt + (μ 267 11).toInt) := (iA (rfl : y1.toInt = _) (rfl : (μ 267 11).toInt = _) (by omega) (by omega))
    refine zH_bd (tX12_isLetter hC h (by omega)) (fun x_6 p_7 => ?_)
    have q_8 : (x_6.toInt = 0 ∨ x_6.toInt = 1) ∧ (x_6.toInt = 1 → (y1 + (μ 267 11)).toInt < (μ 267 3).toInt) := p_7
    have f_9 : (0 ≤ (μ 267 3).toInt ∧ (μ 267 3).toInt ≤ 1500) ∧ (μ 267 3).toInt = (C 267 3).toInt := h.szI hC
    refine zH_eqc (rfl : x_6.toInt = _) (iL (0) (0) rfl) (fun c_10e c_10 => ?_) (fun c_10e c_10 => ?_)
    · refine zH_lec (iL (7) (7) rfl) (rfl : (μ 267 11).toInt = _) (fun c_11 => ?_) (fun c_11 => ?_)
      · have q_12 : (0 : Int32).toInt = (0 : Int) := (iL (0) (0) rfl)
        exact zH_some ⟨h, show ((0 : Int32).toInt = 0 ∨ (0 : Int32).toInt = 1) ∧ (μ 267 4).toInt + (μ 267 11).toInt ≤ 1500 ∧ (μ 267 6).toInt = (μ 267 6).toInt from by have q_13 : ((0 : Int32)).toInt = (0 : Int) := (iL (0) (0) rfl); omega⟩
      · have q_14 : (1 : Int32).toInt = (1 : Int) := (iL (1) (1) rfl)
        exact zH_some ⟨h, show ((1 : Int32).toInt = 0 ∨ (1 : Int32).toInt = 1) ∧ (μ 267 4).toInt + (μ 267 11).toInt ≤ 1500 ∧ (μ 267 6).toInt = (μ 267 6).toInt from by have q_15 : ((1 : Int32)).toInt = (1 : Int) := (iL (1) (1) rfl); omega⟩
    · refine zH_lec (iL (6) (6) rfl) (rfl : (μ 267 11).toInt = _) (fun c_16 => ?_) (fun c_16 => ?_)
      · unfold fX12_seesWord_n82
        refine zH_lt (fun μ_17 e_18 => ?_)
        have h_19 : KL C μ_17 := by rw [e_18]; exact KL.up h rfl (fun e => absurd e (by decide)) (fun e => absurd e (by decide))
        have q_20 : (μ_17 267 4).toInt = (μ 267 4).toInt := by rw [e_18]; first | done | rfl
        have q_21 : (μ_17 267 6).toInt = (μ 267 6).toInt := by rw [e_18]; first | done | rfl
        have q_22 : (μ_17 267 11).toInt = (μ 267 11).toInt := by rw [e_18]; first | done | rfl
        have f_26 : 0 ≤ (μ_17 267 11).toInt ∧ (μ_17 267 11).toInt ≤ 1500 := h_19.2.2.2
        refine zH_lt (fun μ_23 e_24 => ?_)
        have h_25 : KL C μ_23 := by rw [e_24]; exact KL.up h_19 rfl (fun e => absurd e (by decide)) (fun _ => show (0 : Int) ≤ ((μ_17 267 11) + (1 : Int32)).toInt ∧ ((μ_17 267 11) + (1 : Int32)).toInt ≤ 1500 from by have q_27 : ((μ_17 267 11) + (1 : Int32)).toInt = ((μ_17 267 11).toInt + (1 : Int)) := (iA (rfl : (μ_17 267 11).toInt = _) (iL (1) (1) rfl) (by omega) (by omega)); omega)
        have q_28 : (μ_23 267 4).toInt = (μ_17 267 4).toInt := by rw [e_24]; first | done | rfl
        have q_29 : (μ_23 267 6).toInt = (μ_17 267 6).toInt := by rw [e_24]; first | done | rfl
        have q_30 : (μ_23 267 11).toInt = ((μ_17 267 11).toInt + (1 : Int)) := by rw [e_24]; exact (show ((μ_17 267 11) + (1 : Int32)).toInt = _ from (iA (rfl : (μ_17 267 11).toInt = _) (iL (1) (1) rfl) (by omega) (by omega)))
        exact zH_mono (ih y1 μ_23 h_25 (by omega) (by omega) (by omega) (by omega)) (fun r_32 p_31 => ⟨p_31.1, show ((r_32.1).toInt = 0 ∨ (r_32.1).toInt = 1) ∧ ((r_32.2) 267 4).toInt + ((r_32.2) 267 11).toInt ≤ 1500 ∧ ((r_32.2) 267 6).toInt = (μ 267 6).toInt from by have q_33 : ((r_32.1).toInt = 0 ∨ (r_32.1).toInt = 1) ∧ ((r_32.2) 267 4).toInt + ((r_32.2) 267 11).toInt ≤ 1500 ∧ ((r_32.2) 267 6).toInt = (μ_23 267 6).toInt := p_31.2; omega⟩)
      · refine zH_ck (zIn (iA (rfl : y1.toInt = _) (rfl : (μ 267 11).toInt = _) (by omega) (by omega)) (by omega) (by omega)) ?_
        unfold fX12_seesWord_n82
        refine zH_lt (fun μ_34 e_35 => ?_)
        have h_36 : KL C μ_34 := by rw [e_35]; exact KL.up h rfl (fun e => absurd e (by decide)) (fun e => absurd e (by decide))
        have q_37 : (μ_34 267 4).toInt = (μ 267 4).toInt := by rw [e_35]; first | done | rfl
        have q_38 : (μ_34 267 6).toInt = (μ 267 6).toInt := by rw [e_35]; first | done | rfl
        have q_39 : (μ_34 267 11).toInt = (μ 267 11).toInt := by rw [e_35]; first | done | rfl
        have f_43 : 0 ≤ (μ_34 267 11).toInt ∧ (μ_34 267 11).toInt ≤ 1500 := h_36.2.2.2
        refine zH_lt (fun μ_40 e_41 => ?_)
        have h_42 : KL C μ_40 := by rw [e_41]; exact KL.up h_36 rfl (fun e => absurd e (by decide)) (fun _ => show (0 : Int) ≤ ((μ_34 267 11) + (1 : Int32)).toInt ∧ ((μ_34 267 11) + (1 : Int32)).toInt ≤ 1500 from by have q_44 : ((μ_34 267 11) + (1 : Int32)).toInt = ((μ_34 267 11).toInt + (1 : Int)) := (iA (rfl : (μ_34 267 11).toInt = _) (iL (1) (1) rfl) (by omega) (by omega)); omega)
        have q_45 : (μ_40 267 4).toInt = (μ_34 267 4).toInt := by rw [e_41]; first | done | rfl
        have q_46 : (μ_40 267 6).toInt = (μ_34 267 6).toInt := by rw [e_41]; first | done | rfl
        have q_47 : (μ_40 267 11).toInt = ((μ_34 267 11).toInt + (1 : Int)) := by rw [e_41]; exact (show ((μ_34 267 11) + (1 : Int32)).toInt = _ from (iA (rfl : (μ_34 267 11).toInt = _) (iL (1) (1) rfl) (by omega) (by omega)))
        exact zH_mono (ih y1 μ_40 h_42 (by omega) (by omega) (by omega) (by omega)) (fun r_49 p_48 => ⟨p_48.1, show ((r_49.1).toInt = 0 ∨ (r_49.1).toInt = 1) ∧ ((r_49.2) 267 4).toInt + ((r_49.2) 267 11).toInt ≤ 1500 ∧ ((r_49.2) 267 6).toInt = (μ 267 6).toInt from by have q_50 : ((r_49.1).toInt = 0 ∨ (r_49.1).toInt = 1) ∧ ((r_49.2) 267 4).toInt + ((r_49.2) 267 11).toInt ≤ 1500 ∧ ((r_49.2) 267 6).toInt = (μ_40 267 6).toInt := p_48.2; omega⟩)
theorem tX12_seesWord {C : gM} {μ : gM}  (hC : hK C) (h : KL C μ)  : zH (fX12_seesWord μ) (fun r => KL C r.2 ∧ ((r.1.toInt = 0 ∨ r.1.toInt = 1) ∧ (r.2 267 4).toInt + (r.2 267 11).toInt ≤ 1500 ∧ (r.2 267 6).toInt = (μ 267 6).toInt)) := by
  unfold fX12_seesWord
  refine zH_bp (tX12_next hC h) (fun x_1 μ_2 p_3 => ?_)
  have h_4 : KL C μ_2 := p_3.1
  have q_5 : x_1.toInt = (μ_2 267 4).toInt ∧ (μ_2 267 6).toInt = (μ 267 6).toInt ∧ (μ_2 267 11).toInt = (μ 267 11).toInt := p_3.2
  have f_6 : 0 ≤ (μ_2 267 4).toInt ∧ (μ_2 267 4).toInt ≤ 1500 := h_4.2.2.1
  have f_7 : 0 ≤ (μ_2 267 11).toInt ∧ (μ_2 267 11).toInt ≤ 1500 := h_4.2.2.2
  have f_8 : 0 ≤ (μ 267 11).toInt ∧ (μ 267 11).toInt ≤ 1500 := h.2.2.2
  refine zH_lt (fun μ_9 e_10 => ?_)
  have h_11 : KL C μ_9 := by rw [e_10]; exact KL.up h_4 rfl (fun e => absurd e (by decide)) (fun _ => show (0 : Int) ≤ (0 : Int32).toInt ∧ (0 : Int32).toInt ≤ 1500 from by have q_12 : (0 : Int32).toInt = (0 : Int) := (iL (0) (0) rfl); omega)
  have q_13 : (μ_9 267 4).toInt = (μ_2 267 4).toInt := by rw [e_10]; first | done | rfl
  have q_14 : (μ_9 267 6).toInt = (μ_2 267 6).toInt := by rw [e_10]; first | done | rfl
  have q_15 : (μ_9 267 11).toInt = (0 : Int) := by rw [e_10]; exact (show (0 : Int32).toInt = _ from (iL (0) (0) rfl))
  refine zH_lt (fun μ_16 e_17 => ?_)
  have h_18 : KL C μ_16 := by rw [e_17]; exact KL.up h_11 rfl (fun e => absurd e (by decide)) (fun e => absurd e (by decide))
  have q_19 : (μ_16 267 4).toInt = (μ_9 267 4).toInt := by rw [e_17]; first | done | rfl
  have q_20 : (μ_16 267 6).toInt = (μ_9 267 6).toInt := by rw [e_17]; first | done | rfl
  have q_21 : (μ_16 267 11).toInt = (μ_9 267 11).toInt := by rw [e_17]; first | done | rfl
  refine zH_bd (tX12_isLetter hC h_18 (by omega)) (fun x_22 p_23 => ?_)
  have q_24 : (x_22.toInt = 0 ∨ x_22.toInt = 1) ∧ (x_22.toInt = 1 → x_1.toInt < (μ_16 267 3).toInt) := p_23
  have f_25 : (0 ≤ (μ_16 267 3).toInt ∧ (μ_16 267 3).toInt ≤ 1500) ∧ (μ_16 267 3).toInt = (C 267 3).toInt := h_18.szI hC
  refine zH_eqc (rfl : x_22.toInt = _) (iL (0) (0) rfl) (fun c_26e c_26 => ?_) (fun c_26e c_26 => ?_)
  · have q_27 : (0 : Int32).toInt = (0 : Int) := (iL (0) (0) rfl)
    exact zH_some ⟨h_18, show ((0 : Int32).toInt = 0 ∨ (0 : Int32).toInt = 1) ∧ (μ_16 267 4).toInt + (μ_16 267 11).toInt ≤ 1500 ∧ (μ_16 267 6).toInt = (μ 267 6).toInt from by have q_28 : ((0 : Int32)).toInt = (0 : Int) := (iL (0) (0) rfl); omega⟩
  · refine zH_eqc (rfl : x_1.toInt = _) (rfl : (μ_16 267 5).toInt = _) (fun c_29e c_29 => ?_) (fun c_29e c_29 => ?_)
    · have q_30 : (0 : Int32).toInt = (0 : Int) := (iL (0) (0) rfl)
      exact zH_some ⟨h_18, show ((0 : Int32).toInt = 0 ∨ (0 : Int32).toInt = 1) ∧ (μ_16 267 4).toInt + (μ_16 267 11).toInt ≤ 1500 ∧ (μ_16 267 6).toInt = (μ 267 6).toInt from by have q_31 : ((0 : Int32)).toInt = (0 : Int) := (iL (0) (0) rfl); omega⟩
    · have f_32 : 0 ≤ (μ_16 267 4).toInt ∧ (μ_16 267 4).toInt ≤ 1500 := h_18.2.2.1
      have f_33 : 0 ≤ (μ_16 267 11).toInt ∧ (μ_16 267 11).toInt ≤ 1500 := h_18.2.2.2
      exact zH_mono (tX12_seesWord_l33 hC 100000 x_1 μ_16 h_18 (by omega) (by omega) (by omega) (by omega)) (fun r_35 p_34 => ⟨p_34.1, show ((r_35.1).toInt = 0 ∨ (r_35.1).toInt = 1) ∧ ((r_35.2) 267 4).toInt + ((r_35.2) 267 11).toInt ≤ 1500 ∧ ((r_35.2) 267 6).toInt = (μ 267 6).toInt from by have q_36 : (r_35.1.toInt = 0 ∨ r_35.1.toInt = 1) ∧ (r_35.2 267 4).toInt + (r_35.2 267 11).toInt ≤ 1500 ∧ (r_35.2 267 6).toInt = (μ_16 267 6).toInt := p_34.2; omega⟩)
theorem tX12_isWord {C : gM} {a1 : Int32} {μ : gM}  (hC : hK C) (h : KL C μ)  : zH (fX12_isWord a1 μ) (fun r => KL C r.2 ∧ ((r.1.toInt = 0 ∨ r.1.toInt = 1) ∧ (r.1.toInt = 1 → (r.2 267 4).toInt + (r.2 267 11).toInt ≤ 1500) ∧ (r.2 267 6).toInt = (μ 267 6).toInt)) := by
  unfold fX12_isWord
  refine zH_bd (tX12_isFine) (fun x_1 p_2 => ?_)
  have q_3 : (x_1.toInt = 0 ∨ x_1.toInt = 1) ∧ (x_1.toInt = 1 → (μ 267 6).toInt = 0) ∧ (x_1.toInt = 0 → (μ 267 6).toInt ≠ 0) := p_2
  refine zH_eqc (rfl : x_1.toInt = _) (iL (0) (0) rfl) (fun c_4e c_4 => ?_) (fun c_4e c_4 => ?_)
  · have q_5 : (0 : Int32).toInt = (0 : Int) := (iL (0) (0) rfl)
    exact zH_some ⟨h, show ((0 : Int32).toInt = 0 ∨ (0 : Int32).toInt = 1) ∧ ((0 : Int32).toInt = 1 → (μ 267 4).toInt + (μ 267 11).toInt ≤ 1500) ∧ (μ 267 6).toInt = (μ 267 6).toInt from by have q_6 : ((0 : Int32)).toInt = (0 : Int) := (iL (0) (0) rfl); omega⟩
  · refine zH_bp (tX12_seesWord hC h) (fun x_7 μ_8 p_9 => ?_)
    have h_10 : KL C μ_8 := p_9.1
    have q_11 : (x_7.toInt = 0 ∨ x_7.toInt = 1) ∧ (μ_8 267 4).toInt + (μ_8 267 11).toInt ≤ 1500 ∧ (μ_8 267 6).toInt = (μ 267 6).toInt := p_9.2
    have f_12 : 0 ≤ (μ_8 267 4).toInt ∧ (μ_8 267 4).toInt ≤ 1500 := h_10.2.2.1
    have f_13 : 0 ≤ (μ_8 267 11).toInt ∧ (μ_8 267 11).toInt ≤ 1500 := h_10.2.2.2
    refine zH_eqc (rfl : x_7.toInt = _) (iL (0) (0) rfl) (fun c_14e c_14 => ?_) (fun c_14e c_14 => ?_)
    · have q_15 : (0 : Int32).toInt = (0 : Int) := (iL (0) (0) rfl)
      exact zH_some ⟨h_10, show ((0 : Int32).toInt = 0 ∨ (0 : Int32).toInt = 1) ∧ ((0 : Int32).toInt = 1 → (μ_8 267 4).toInt + (μ_8 267 11).toInt ≤ 1500) ∧ (μ_8 267 6).toInt = (μ 267 6).toInt from by have q_16 : ((0 : Int32)).toInt = (0 : Int) := (iL (0) (0) rfl); omega⟩
    · refine zH_eqc (rfl : (μ_8 267 10).toInt = _) (rfl : a1.toInt = _) (fun c_17e c_17 => ?_) (fun c_17e c_17 => ?_)
      · have q_18 : (1 : Int32).toInt = (1 : Int) := (iL (1) (1) rfl)
        exact zH_some ⟨h_10, show ((1 : Int32).toInt = 0 ∨ (1 : Int32).toInt = 1) ∧ ((1 : Int32).toInt = 1 → (μ_8 267 4).toInt + (μ_8 267 11).toInt ≤ 1500) ∧ (μ_8 267 6).toInt = (μ 267 6).toInt from by have q_19 : ((1 : Int32)).toInt = (1 : Int) := (iL (1) (1) rfl); omega⟩
      · have q_20 : (0 : Int32).toInt = (0 : Int) := (iL (0) (0) rfl)
        exact zH_some ⟨h_10, show ((0 : Int32).toInt = 0 ∨ (0 : Int32).toInt = 1) ∧ ((0 : Int32).toInt = 1 → (μ_8 267 4).toInt + (μ_8 267 11).toInt ≤ 1500) ∧ (μ_8 267 6).toInt = (μ 267 6).toInt from by have q_21 : ((0 : Int32)).toInt = (0 : Int) := (iL (0) (0) rfl); omega⟩
theorem tX12_pass {C : gM} {μ : gM}  (hC : hK C) (h : KL C μ) (g0 : (μ 267 4).toInt + (μ 267 11).toInt ≤ 1500) : zH (fX12_pass μ) (fun ν => KL C ν ∧ ((ν 267 6).toInt = (μ 267 6).toInt)) := by
  unfold fX12_pass
  have f_4 : 0 ≤ (μ 267 4).toInt ∧ (μ 267 4).toInt ≤ 1500 := h.2.2.1
  have f_5 : 0 ≤ (μ 267 11).toInt ∧ (μ 267 11).toInt ≤ 1500 := h.2.2.2
  refine zH_lt (fun μ_1 e_2 => ?_)
  have h_3 : KL C μ_1 := by rw [e_2]; exact KL.up h rfl (fun _ => show (0 : Int) ≤ ((μ 267 4) + (μ 267 11)).toInt ∧ ((μ 267 4) + (μ 267 11)).toInt ≤ 1500 from by have q_6 : ((μ 267 4) + (μ 267 11)).toInt = ((μ 267 4).toInt + (μ 267 11).toInt) := (iA (rfl : (μ 267 4).toInt = _) (rfl : (μ 267 11).toInt = _) (by omega) (by omega)); omega) (fun e => absurd e (by decide))
  have q_7 : (μ_1 267 4).toInt = ((μ 267 4).toInt + (μ 267 11).toInt) := by rw [e_2]; exact (show ((μ 267 4) + (μ 267 11)).toInt = _ from (iA (rfl : (μ 267 4).toInt = _) (rfl : (μ 267 11).toInt = _) (by omega) (by omega)))
  have q_8 : (μ_1 267 6).toInt = (μ 267 6).toInt := by rw [e_2]; first | done | rfl
  have q_9 : (μ_1 267 11).toInt = (μ 267 11).toInt := by rw [e_2]; first | done | rfl
  refine zH_lt (fun μ_10 e_11 => ?_)
  have h_12 : KL C μ_10 := by rw [e_11]; exact KL.up h_3 rfl (fun e => absurd e (by decide)) (fun e => absurd e (by decide))
  have q_13 : (μ_10 267 4).toInt = (μ_1 267 4).toInt := by rw [e_11]; first | done | rfl
  have q_14 : (μ_10 267 6).toInt = (μ_1 267 6).toInt := by rw [e_11]; first | done | rfl
  have q_15 : (μ_10 267 11).toInt = (μ_1 267 11).toInt := by rw [e_11]; first | done | rfl
  exact zH_some ⟨h_12, show (μ_10 267 6).toInt = (μ 267 6).toInt from by omega⟩
theorem tX12_takes {C : gM} {a1 : Int32} {μ : gM}  (hC : hK C) (h : KL C μ)  : zH (fX12_takes a1 μ) (fun r => KL C r.2 ∧ ((r.1.toInt = 0 ∨ r.1.toInt = 1) ∧ (r.2 267 6).toInt = (μ 267 6).toInt)) := by
  unfold fX12_takes
  refine zH_bp (tX12_isWord hC h) (fun x_1 μ_2 p_3 => ?_)
  have h_4 : KL C μ_2 := p_3.1
  have q_5 : (x_1.toInt = 0 ∨ x_1.toInt = 1) ∧ (x_1.toInt = 1 → (μ_2 267 4).toInt + (μ_2 267 11).toInt ≤ 1500) ∧ (μ_2 267 6).toInt = (μ 267 6).toInt := p_3.2
  have f_6 : 0 ≤ (μ_2 267 4).toInt ∧ (μ_2 267 4).toInt ≤ 1500 := h_4.2.2.1
  have f_7 : 0 ≤ (μ_2 267 11).toInt ∧ (μ_2 267 11).toInt ≤ 1500 := h_4.2.2.2
  refine zH_eqc (rfl : x_1.toInt = _) (iL (0) (0) rfl) (fun c_8e c_8 => ?_) (fun c_8e c_8 => ?_)
  · have q_9 : (0 : Int32).toInt = (0 : Int) := (iL (0) (0) rfl)
    exact zH_some ⟨h_4, show ((0 : Int32).toInt = 0 ∨ (0 : Int32).toInt = 1) ∧ (μ_2 267 6).toInt = (μ 267 6).toInt from by have q_10 : ((0 : Int32)).toInt = (0 : Int) := (iL (0) (0) rfl); omega⟩
  · refine zH_bd (tX12_pass hC h_4 (by omega)) (fun μ_11 p_12 => ?_)
    have h_13 : KL C μ_11 := p_12.1
    have q_14 : (μ_11 267 6).toInt = (μ_2 267 6).toInt := p_12.2
    have q_15 : (1 : Int32).toInt = (1 : Int) := (iL (1) (1) rfl)
    exact zH_some ⟨h_13, show ((1 : Int32).toInt = 0 ∨ (1 : Int32).toInt = 1) ∧ (μ_11 267 6).toInt = (μ 267 6).toInt from by have q_16 : ((1 : Int32)).toInt = (1 : Int) := (iL (1) (1) rfl); omega⟩
theorem tX12_asks {C : gM} {a1 : Int32} {μ : gM}  (hC : hK C) (h : KL C μ)  : zH (fX12_asks a1 μ) (fun ν => KL C ν ∧ ((ν 267 6).toInt = 0 → (μ 267 6).toInt = 0)) := by
  unfold fX12_asks
  refine zH_bd (tX12_isFine) (fun x_1 p_2 => ?_)
  have q_3 : (x_1.toInt = 0 ∨ x_1.toInt = 1) ∧ (x_1.toInt = 1 → (μ 267 6).toInt = 0) ∧ (x_1.toInt = 0 → (μ 267 6).toInt ≠ 0) := p_2
  refine zH_eqc (rfl : x_1.toInt = _) (iL (0) (0) rfl) (fun c_4e c_4 => ?_) (fun c_4e c_4 => ?_)
  · exact zH_some ⟨h, show (μ 267 6).toInt = 0 → (μ 267 6).toInt = 0 from by omega⟩
  · refine zH_bp (tX12_takes hC h) (fun x_5 μ_6 p_7 => ?_)
    have h_8 : KL C μ_6 := p_7.1
    have q_9 : (x_5.toInt = 0 ∨ x_5.toInt = 1) ∧ (μ_6 267 6).toInt = (μ 267 6).toInt := p_7.2
    refine zH_eqc (rfl : x_5.toInt = _) (iL (0) (0) rfl) (fun c_10e c_10 => ?_) (fun c_10e c_10 => ?_)
    · refine zH_bd (tX12_unlike hC h_8) (fun μ_11 p_12 => ?_)
      have h_13 : KL C μ_11 := p_12.1
      have q_14 : (μ_11 267 6).toInt ≠ 0 := p_12.2
      exact zH_some ⟨h_13, show (μ_11 267 6).toInt = 0 → (μ 267 6).toInt = 0 from by omega⟩
    · exact zH_some ⟨h_8, show (μ_6 267 6).toInt = 0 → (μ 267 6).toInt = 0 from by omega⟩
theorem tX12_isName {C : gM} {μ : gM}  (hC : hK C) (h : KL C μ)  : zH (fX12_isName μ) (fun r => KL C r.2 ∧ ((r.1.toInt = 0 ∨ r.1.toInt = 1) ∧ (r.1.toInt = 1 → (r.2 267 4).toInt + (r.2 267 11).toInt ≤ 1500) ∧ (r.2 267 6).toInt = (μ 267 6).toInt)) := by
  unfold fX12_isName
  refine zH_bd (tX12_isFine) (fun x_1 p_2 => ?_)
  have q_3 : (x_1.toInt = 0 ∨ x_1.toInt = 1) ∧ (x_1.toInt = 1 → (μ 267 6).toInt = 0) ∧ (x_1.toInt = 0 → (μ 267 6).toInt ≠ 0) := p_2
  refine zH_eqc (rfl : x_1.toInt = _) (iL (0) (0) rfl) (fun c_4e c_4 => ?_) (fun c_4e c_4 => ?_)
  · have q_5 : (0 : Int32).toInt = (0 : Int) := (iL (0) (0) rfl)
    exact zH_some ⟨h, show ((0 : Int32).toInt = 0 ∨ (0 : Int32).toInt = 1) ∧ ((0 : Int32).toInt = 1 → (μ 267 4).toInt + (μ 267 11).toInt ≤ 1500) ∧ (μ 267 6).toInt = (μ 267 6).toInt from by have q_6 : ((0 : Int32)).toInt = (0 : Int) := (iL (0) (0) rfl); omega⟩
  · refine zH_bp (tX12_seesWord hC h) (fun x_7 μ_8 p_9 => ?_)
    have h_10 : KL C μ_8 := p_9.1
    have q_11 : (x_7.toInt = 0 ∨ x_7.toInt = 1) ∧ (μ_8 267 4).toInt + (μ_8 267 11).toInt ≤ 1500 ∧ (μ_8 267 6).toInt = (μ 267 6).toInt := p_9.2
    have f_12 : 0 ≤ (μ_8 267 4).toInt ∧ (μ_8 267 4).toInt ≤ 1500 := h_10.2.2.1
    have f_13 : 0 ≤ (μ_8 267 11).toInt ∧ (μ_8 267 11).toInt ≤ 1500 := h_10.2.2.2
    refine zH_eqc (rfl : x_7.toInt = _) (iL (0) (0) rfl) (fun c_14e c_14 => ?_) (fun c_14e c_14 => ?_)
    · have q_15 : (0 : Int32).toInt = (0 : Int) := (iL (0) (0) rfl)
      exact zH_some ⟨h_10, show ((0 : Int32).toInt = 0 ∨ (0 : Int32).toInt = 1) ∧ ((0 : Int32).toInt = 1 → (μ_8 267 4).toInt + (μ_8 267 11).toInt ≤ 1500) ∧ (μ_8 267 6).toInt = (μ 267 6).toInt from by have q_16 : ((0 : Int32)).toInt = (0 : Int) := (iL (0) (0) rfl); omega⟩
    · refine zH_bd (tX12_isOwn) (fun x_17 p_18 => ?_)
      have q_19 : x_17.toInt = 0 ∨ x_17.toInt = 1 := p_18
      refine zH_eqc (rfl : x_17.toInt = _) (iL (0) (0) rfl) (fun c_20e c_20 => ?_) (fun c_20e c_20 => ?_)
      · have q_21 : (1 : Int32).toInt = (1 : Int) := (iL (1) (1) rfl)
        exact zH_some ⟨h_10, show ((1 : Int32).toInt = 0 ∨ (1 : Int32).toInt = 1) ∧ ((1 : Int32).toInt = 1 → (μ_8 267 4).toInt + (μ_8 267 11).toInt ≤ 1500) ∧ (μ_8 267 6).toInt = (μ 267 6).toInt from by have q_22 : ((1 : Int32)).toInt = (1 : Int) := (iL (1) (1) rfl); omega⟩
      · have q_23 : (0 : Int32).toInt = (0 : Int) := (iL (0) (0) rfl)
        exact zH_some ⟨h_10, show ((0 : Int32).toInt = 0 ∨ (0 : Int32).toInt = 1) ∧ ((0 : Int32).toInt = 1 → (μ_8 267 4).toInt + (μ_8 267 11).toInt ≤ 1500) ∧ (μ_8 267 6).toInt = (μ 267 6).toInt from by have q_24 : ((0 : Int32)).toInt = (0 : Int) := (iL (0) (0) rfl); omega⟩
theorem tX12_number_l75 {C : gM}    (hC : hK C) : ∀ (n : Nat) (y1 : Int32) (y2 : Int32) (y3 : Int32) (y4 : Int32) (y5 : Int32) (y6 : Int32) (μ : gM), KL C μ → 0 ≤ y3.toInt → y3.toInt ≤ 1500 → 0 ≤ y4.toInt → y3.toInt + y4.toInt ≤ 1500 → 0 ≤ y6.toInt → max 0 (y4.toInt - y6.toInt) < (n : Int) → zH (fX12_number_l75  n y1 y2 y3 y4 y5 y6 μ) (fun r => KL C r.2 ∧ ((r.2 267 6).toInt = 0 → (μ 267 6).toInt = 0 ∧ y1.toInt ≤ r.1.toInt ∧ r.1.toInt ≤ y2.toInt)) := by
  intro n
  induction n with
  | zero =>
    intro y1 y2 y3 y4 y5 y6 μ  h g0 g1 g2 g3 g4 gm
    exact absurd gm (by omega)
  | succ n ih =>
    intro y1 y2 y3 y4 y5 y6 μ  h g0 g1 g2 g3 g4 gm
    rw [fX12_number_l75]
    refine zH_lec (rfl : y4.toInt = _) (rfl : y6.toInt = _) (fun c_1 => ?_) (fun c_1 => ?_)
    · refine zH_lt (fun μ_2 e_3 => ?_)
      have h_4 : KL C μ_2 := by rw [e_3]; exact KL.up h rfl (fun _ => show (0 : Int) ≤ (y3 + y4).toInt ∧ (y3 + y4).toInt ≤ 1500 from by have q_5 : (y3 + y4).toInt = (y3.toInt + y4.toInt) := (iA (rfl : y3.toInt = _) (rfl : y4.toInt = _) (by omega) (by omega)); omega) (fun e => absurd e (by decide))
      have q_6 : (μ_2 267 4).toInt = (y3.toInt + y4.toInt) := by rw [e_3]; exact (show (y3 + y4).toInt = _ from (iA (rfl : y3.toInt = _) (rfl : y4.toInt = _) (by omega) (by omega)))
      have q_7 : (μ_2 267 6).toInt = (μ 267 6).toInt := by rw [e_3]; first | done | rfl
      have q_8 : (μ_2 267 11).toInt = (μ 267 11).toInt := by rw [e_3]; first | done | rfl
      refine zH_lt (fun μ_9 e_10 => ?_)
      have h_11 : KL C μ_9 := by rw [e_10]; exact KL.up h_4 rfl (fun e => absurd e (by decide)) (fun e => absurd e (by decide))
      have q_12 : (μ_9 267 4).toInt = (μ_2 267 4).toInt := by rw [e_10]; first | done | rfl
      have q_13 : (μ_9 267 6).toInt = (μ_2 267 6).toInt := by rw [e_10]; first | done | rfl
      have q_14 : (μ_9 267 11).toInt = (μ_2 267 11).toInt := by rw [e_10]; first | done | rfl
      refine zH_bd (tX12_isIn (i64 (rfl : y5.toInt = _)) (i64 (rfl : y1.toInt = _)) (i64 (rfl : y2.toInt = _))) (fun x_15 p_16 => ?_)
      have q_17 : (x_15.toInt = 0 ∨ x_15.toInt = 1) ∧ (x_15.toInt = 1 → y1.toInt ≤ y5.toInt ∧ y5.toInt ≤ y2.toInt) ∧ (x_15.toInt = 0 → y5.toInt < y1.toInt ∨ y2.toInt < y5.toInt) := p_16
      refine zH_eqc (rfl : x_15.toInt = _) (iL (0) (0) rfl) (fun c_18e c_18 => ?_) (fun c_18e c_18 => ?_)
      · have q_19 : (4 : Int32).toInt = (4 : Int) := (iL (4) (4) rfl)
        refine zH_bd (tX12_fail hC h_11 (by omega)) (fun μ_20 p_21 => ?_)
        have h_22 : KL C μ_20 := p_21.1
        have q_23 : (μ_20 267 6).toInt ≠ 0 ∧ (μ_20 267 4).toInt = (μ_9 267 4).toInt ∧ (μ_20 267 11).toInt = (μ_9 267 11).toInt := p_21.2
        have f_24 : 0 ≤ (μ_20 267 4).toInt ∧ (μ_20 267 4).toInt ≤ 1500 := h_22.2.2.1
        have f_25 : 0 ≤ (μ_9 267 4).toInt ∧ (μ_9 267 4).toInt ≤ 1500 := h_11.2.2.1
        have f_26 : 0 ≤ (μ_20 267 11).toInt ∧ (μ_20 267 11).toInt ≤ 1500 := h_22.2.2.2
        have f_27 : 0 ≤ (μ_9 267 11).toInt ∧ (μ_9 267 11).toInt ≤ 1500 := h_11.2.2.2
        exact zH_some ⟨h_22, show (μ_20 267 6).toInt = 0 → (μ 267 6).toInt = 0 ∧ y1.toInt ≤ y5.toInt ∧ y5.toInt ≤ y2.toInt from by have q_28 : (y5).toInt = y5.toInt := (rfl : y5.toInt = _); omega⟩
      · exact zH_some ⟨h_11, show (μ_9 267 6).toInt = 0 → (μ 267 6).toInt = 0 ∧ y1.toInt ≤ y5.toInt ∧ y5.toInt ≤ y2.toInt from by have q_29 : (y5).toInt = y5.toInt := (rfl : y5.toInt = _); omega⟩
    · refine zH_ck (zIn (iA (rfl : y3.toInt = _) (rfl : y6.toInt = _) (by omega) (by omega)) (by omega) (by omega)) ?_
      refine zH_lt (fun x_30 e_31 => ?_)
      refine zH_lt (fun x_32 e_33 => ?_)
      have q_34 : x_32.toInt = (y6.toInt + (1 : Int)) := (congrArg Int32.toInt e_33).trans (iA (rfl : y6.toInt = _) (iL (1) (1) rfl) (by omega) (by omega))
      exact zH_mono (ih y1 y2 y3 y4 x_30 x_32 μ h (by omega) (by omega) (by omega) (by omega) (by omega) (by omega)) (fun r_36 p_35 => ⟨p_35.1, show ((r_36.2) 267 6).toInt = 0 → (μ 267 6).toInt = 0 ∧ y1.toInt ≤ (r_36.1).toInt ∧ (r_36.1).toInt ≤ y2.toInt from by have q_37 : ((r_36.2) 267 6).toInt = 0 → (μ 267 6).toInt = 0 ∧ y1.toInt ≤ (r_36.1).toInt ∧ (r_36.1).toInt ≤ y2.toInt := p_35.2; omega⟩)
theorem tX12_number_l13 {C : gM}    (hC : hK C) : ∀ (n : Nat) (y1 : Int32) (y2 : Int32) (y3 : Int32) (y4 : Int32) (μ : gM), KL C μ → 0 ≤ y3.toInt → y3.toInt ≤ 1500 → 0 ≤ y4.toInt → y3.toInt + y4.toInt ≤ 1500 → 1500 - y4.toInt < (n : Int) → zH (fX12_number_l13  n y1 y2 y3 y4 μ) (fun r => KL C r.2 ∧ ((r.2 267 6).toInt = 0 → (μ 267 6).toInt = 0 ∧ y1.toInt ≤ r.1.toInt ∧ r.1.toInt ≤ y2.toInt)) := by
  intro n
  induction n with
  | zero =>
    intro y1 y2 y3 y4 μ  h g0 g1 g2 g3 gm
    exact absurd gm (by omega)
  | succ n ih =>
    intro y1 y2 y3 y4 μ  h g0 g1 g2 g3 gm
    rw [fX12_number_l13]
    have q_1 : (y3 + y4).toInt = (y3.toInt + y4.toInt) := (iA (rfl : y3.toInt = _) (rfl : y4.toInt = _) (by omega) (by omega))
    refine zH_bd (tX12_isDigit hC h (by omega)) (fun x_2 p_3 => ?_)
    have q_4 : (x_2.toInt = 0 ∨ x_2.toInt = 1) ∧ (x_2.toInt = 1 → (y3 + y4).toInt < (μ 267 3).toInt) := p_3
    have f_5 : (0 ≤ (μ 267 3).toInt ∧ (μ 267 3).toInt ≤ 1500) ∧ (μ 267 3).toInt = (C 267 3).toInt := h.szI hC
    refine zH_eqc (rfl : x_2.toInt = _) (iL (0) (0) rfl) (fun c_6e c_6 => ?_) (fun c_6e c_6 => ?_)
    · refine zH_bd (tX12_isFine) (fun x_7 p_8 => ?_)
      have q_9 : (x_7.toInt = 0 ∨ x_7.toInt = 1) ∧ (x_7.toInt = 1 → (μ 267 6).toInt = 0) ∧ (x_7.toInt = 0 → (μ 267 6).toInt ≠ 0) := p_8
      refine zH_eqc (rfl : x_7.toInt = _) (iL (0) (0) rfl) (fun c_10e c_10 => ?_) (fun c_10e c_10 => ?_)
      · unfold fX12_number_n60
        refine zH_bd (tX12_isFine) (fun x_11 p_12 => ?_)
        have q_13 : (x_11.toInt = 0 ∨ x_11.toInt = 1) ∧ (x_11.toInt = 1 → (μ 267 6).toInt = 0) ∧ (x_11.toInt = 0 → (μ 267 6).toInt ≠ 0) := p_12
        refine zH_eqc (rfl : x_11.toInt = _) (iL (0) (0) rfl) (fun c_14e c_14 => ?_) (fun c_14e c_14 => ?_)
        · exact zH_some ⟨h, show (μ 267 6).toInt = 0 → (μ 267 6).toInt = 0 ∧ y1.toInt ≤ y1.toInt ∧ y1.toInt ≤ y2.toInt from by have q_15 : (y1).toInt = y1.toInt := (rfl : y1.toInt = _); omega⟩
        · have q_16 : (0 : Int32).toInt = (0 : Int) := (iL (0) (0) rfl)
          exact zH_mono (tX12_number_l75 hC 100000 y1 y2 y3 y4 (0 : Int32) (0 : Int32) μ h (by omega) (by omega) (by omega) (by omega) (by omega) (by omega)) (fun r_18 p_17 => ⟨p_17.1, show ((r_18.2) 267 6).toInt = 0 → (μ 267 6).toInt = 0 ∧ y1.toInt ≤ (r_18.1).toInt ∧ (r_18.1).toInt ≤ y2.toInt from by have q_19 : (r_18.2 267 6).toInt = 0 → (μ 267 6).toInt = 0 ∧ y1.toInt ≤ r_18.1.toInt ∧ r_18.1.toInt ≤ y2.toInt := p_17.2; omega⟩)
      · refine zH_eqc (rfl : y4.toInt = _) (iL (0) (0) rfl) (fun c_20e c_20 => ?_) (fun c_20e c_20 => ?_)
        · unfold fX12_number_n56
          refine zH_bd (tX12_unlike hC h) (fun μ_21 p_22 => ?_)
          have h_23 : KL C μ_21 := p_22.1
          have q_24 : (μ_21 267 6).toInt ≠ 0 := p_22.2
          unfold fX12_number_n60
          refine zH_bd (tX12_isFine) (fun x_25 p_26 => ?_)
          have q_27 : (x_25.toInt = 0 ∨ x_25.toInt = 1) ∧ (x_25.toInt = 1 → (μ_21 267 6).toInt = 0) ∧ (x_25.toInt = 0 → (μ_21 267 6).toInt ≠ 0) := p_26
          refine zH_eqc (rfl : x_25.toInt = _) (iL (0) (0) rfl) (fun c_28e c_28 => ?_) (fun c_28e c_28 => ?_)
          · exact zH_some ⟨h_23, show (μ_21 267 6).toInt = 0 → (μ 267 6).toInt = 0 ∧ y1.toInt ≤ y1.toInt ∧ y1.toInt ≤ y2.toInt from by have q_29 : (y1).toInt = y1.toInt := (rfl : y1.toInt = _); omega⟩
          · have q_30 : (0 : Int32).toInt = (0 : Int) := (iL (0) (0) rfl)
            exact zH_mono (tX12_number_l75 hC 100000 y1 y2 y3 y4 (0 : Int32) (0 : Int32) μ_21 h_23 (by omega) (by omega) (by omega) (by omega) (by omega) (by omega)) (fun r_32 p_31 => ⟨p_31.1, show ((r_32.2) 267 6).toInt = 0 → (μ 267 6).toInt = 0 ∧ y1.toInt ≤ (r_32.1).toInt ∧ (r_32.1).toInt ≤ y2.toInt from by have q_33 : (r_32.2 267 6).toInt = 0 → (μ_21 267 6).toInt = 0 ∧ y1.toInt ≤ r_32.1.toInt ∧ r_32.1.toInt ≤ y2.toInt := p_31.2; omega⟩)
        · refine zH_ltc (iL (4) (4) rfl) (rfl : y4.toInt = _) (fun c_34 => ?_) (fun c_34 => ?_)
          · unfold fX12_number_n56
            refine zH_bd (tX12_unlike hC h) (fun μ_35 p_36 => ?_)
            have h_37 : KL C μ_35 := p_36.1
            have q_38 : (μ_35 267 6).toInt ≠ 0 := p_36.2
            unfold fX12_number_n60
            refine zH_bd (tX12_isFine) (fun x_39 p_40 => ?_)
            have q_41 : (x_39.toInt = 0 ∨ x_39.toInt = 1) ∧ (x_39.toInt = 1 → (μ_35 267 6).toInt = 0) ∧ (x_39.toInt = 0 → (μ_35 267 6).toInt ≠ 0) := p_40
            refine zH_eqc (rfl : x_39.toInt = _) (iL (0) (0) rfl) (fun c_42e c_42 => ?_) (fun c_42e c_42 => ?_)
            · exact zH_some ⟨h_37, show (μ_35 267 6).toInt = 0 → (μ 267 6).toInt = 0 ∧ y1.toInt ≤ y1.toInt ∧ y1.toInt ≤ y2.toInt from by have q_43 : (y1).toInt = y1.toInt := (rfl : y1.toInt = _); omega⟩
            · have q_44 : (0 : Int32).toInt = (0 : Int) := (iL (0) (0) rfl)
              exact zH_mono (tX12_number_l75 hC 100000 y1 y2 y3 y4 (0 : Int32) (0 : Int32) μ_35 h_37 (by omega) (by omega) (by omega) (by omega) (by omega) (by omega)) (fun r_46 p_45 => ⟨p_45.1, show ((r_46.2) 267 6).toInt = 0 → (μ 267 6).toInt = 0 ∧ y1.toInt ≤ (r_46.1).toInt ∧ (r_46.1).toInt ≤ y2.toInt from by have q_47 : (r_46.2 267 6).toInt = 0 → (μ_35 267 6).toInt = 0 ∧ y1.toInt ≤ r_46.1.toInt ∧ r_46.1.toInt ≤ y2.toInt := p_45.2; omega⟩)
          · refine zH_eqc (rfl : y3.toInt = _) (rfl : (μ 267 5).toInt = _) (fun c_48e c_48 => ?_) (fun c_48e c_48 => ?_)
            · unfold fX12_number_n56
              refine zH_bd (tX12_unlike hC h) (fun μ_49 p_50 => ?_)
              have h_51 : KL C μ_49 := p_50.1
              have q_52 : (μ_49 267 6).toInt ≠ 0 := p_50.2
              unfold fX12_number_n60
              refine zH_bd (tX12_isFine) (fun x_53 p_54 => ?_)
              have q_55 : (x_53.toInt = 0 ∨ x_53.toInt = 1) ∧ (x_53.toInt = 1 → (μ_49 267 6).toInt = 0) ∧ (x_53.toInt = 0 → (μ_49 267 6).toInt ≠ 0) := p_54
              refine zH_eqc (rfl : x_53.toInt = _) (iL (0) (0) rfl) (fun c_56e c_56 => ?_) (fun c_56e c_56 => ?_)
              · exact zH_some ⟨h_51, show (μ_49 267 6).toInt = 0 → (μ 267 6).toInt = 0 ∧ y1.toInt ≤ y1.toInt ∧ y1.toInt ≤ y2.toInt from by have q_57 : (y1).toInt = y1.toInt := (rfl : y1.toInt = _); omega⟩
              · have q_58 : (0 : Int32).toInt = (0 : Int) := (iL (0) (0) rfl)
                exact zH_mono (tX12_number_l75 hC 100000 y1 y2 y3 y4 (0 : Int32) (0 : Int32) μ_49 h_51 (by omega) (by omega) (by omega) (by omega) (by omega) (by omega)) (fun r_60 p_59 => ⟨p_59.1, show ((r_60.2) 267 6).toInt = 0 → (μ 267 6).toInt = 0 ∧ y1.toInt ≤ (r_60.1).toInt ∧ (r_60.1).toInt ≤ y2.toInt from by have q_61 : (r_60.2 267 6).toInt = 0 → (μ_49 267 6).toInt = 0 ∧ y1.toInt ≤ r_60.1.toInt ∧ r_60.1.toInt ≤ y2.toInt := p_59.2; omega⟩)
            · unfold fX12_number_n60
              refine zH_bd (tX12_isFine) (fun x_62 p_63 => ?_)
              have q_64 : (x_62.toInt = 0 ∨ x_62.toInt = 1) ∧ (x_62.toInt = 1 → (μ 267 6).toInt = 0) ∧ (x_62.toInt = 0 → (μ 267 6).toInt ≠ 0) := p_63
              refine zH_eqc (rfl : x_62.toInt = _) (iL (0) (0) rfl) (fun c_65e c_65 => ?_) (fun c_65e c_65 => ?_)
              · exact zH_some ⟨h, show (μ 267 6).toInt = 0 → (μ 267 6).toInt = 0 ∧ y1.toInt ≤ y1.toInt ∧ y1.toInt ≤ y2.toInt from by have q_66 : (y1).toInt = y1.toInt := (rfl : y1.toInt = _); omega⟩
              · have q_67 : (0 : Int32).toInt = (0 : Int) := (iL (0) (0) rfl)
                exact zH_mono (tX12_number_l75 hC 100000 y1 y2 y3 y4 (0 : Int32) (0 : Int32) μ h (by omega) (by omega) (by omega) (by omega) (by omega) (by omega)) (fun r_69 p_68 => ⟨p_68.1, show ((r_69.2) 267 6).toInt = 0 → (μ 267 6).toInt = 0 ∧ y1.toInt ≤ (r_69.1).toInt ∧ (r_69.1).toInt ≤ y2.toInt from by have q_70 : (r_69.2 267 6).toInt = 0 → (μ 267 6).toInt = 0 ∧ y1.toInt ≤ r_69.1.toInt ∧ r_69.1.toInt ≤ y2.toInt := p_68.2; omega⟩)
    · refine zH_lt (fun x_71 e_72 => ?_)
      have q_73 : x_71.toInt = (y4.toInt + (1 : Int)) := (congrArg Int32.toInt e_72).trans (iA (rfl : y4.toInt = _) (iL (1) (1) rfl) (by omega) (by omega))
      exact zH_mono (ih y1 y2 y3 x_71 μ h (by omega) (by omega) (by omega) (by omega) (by omega)) (fun r_75 p_74 => ⟨p_74.1, show ((r_75.2) 267 6).toInt = 0 → (μ 267 6).toInt = 0 ∧ y1.toInt ≤ (r_75.1).toInt ∧ (r_75.1).toInt ≤ y2.toInt from by have q_76 : ((r_75.2) 267 6).toInt = 0 → (μ 267 6).toInt = 0 ∧ y1.toInt ≤ (r_75.1).toInt ∧ (r_75.1).toInt ≤ y2.toInt := p_74.2; omega⟩)
theorem tX12_number {C : gM} {a1 : Int32} {a2 : Int32} {μ : gM}  (hC : hK C) (h : KL C μ)  : zH (fX12_number a1 a2 μ) (fun r => KL C r.2 ∧ ((r.2 267 6).toInt = 0 → (μ 267 6).toInt = 0 ∧ a1.toInt ≤ r.1.toInt ∧ r.1.toInt ≤ a2.toInt)) := by
  unfold fX12_number
  refine zH_bp (tX12_next hC h) (fun x_1 μ_2 p_3 => ?_)
  have h_4 : KL C μ_2 := p_3.1
  have q_5 : x_1.toInt = (μ_2 267 4).toInt ∧ (μ_2 267 6).toInt = (μ 267 6).toInt ∧ (μ_2 267 11).toInt = (μ 267 11).toInt := p_3.2
  have f_6 : 0 ≤ (μ_2 267 4).toInt ∧ (μ_2 267 4).toInt ≤ 1500 := h_4.2.2.1
  have f_7 : 0 ≤ (μ_2 267 11).toInt ∧ (μ_2 267 11).toInt ≤ 1500 := h_4.2.2.2
  have f_8 : 0 ≤ (μ 267 11).toInt ∧ (μ 267 11).toInt ≤ 1500 := h.2.2.2
  refine zH_lt (fun μ_9 e_10 => ?_)
  have h_11 : KL C μ_9 := by rw [e_10]; exact KL.up h_4 rfl (fun e => absurd e (by decide)) (fun e => absurd e (by decide))
  have q_12 : (μ_9 267 4).toInt = (μ_2 267 4).toInt := by rw [e_10]; first | done | rfl
  have q_13 : (μ_9 267 6).toInt = (μ_2 267 6).toInt := by rw [e_10]; first | done | rfl
  have q_14 : (μ_9 267 11).toInt = (μ_2 267 11).toInt := by rw [e_10]; first | done | rfl
  have q_15 : (0 : Int32).toInt = (0 : Int) := (iL (0) (0) rfl)
  exact zH_mono (tX12_number_l13 hC 100000 a1 a2 x_1 (0 : Int32) μ_9 h_11 (by omega) (by omega) (by omega) (by omega) (by omega)) (fun r_17 p_16 => ⟨p_16.1, show ((r_17.2) 267 6).toInt = 0 → (μ 267 6).toInt = 0 ∧ a1.toInt ≤ (r_17.1).toInt ∧ (r_17.1).toInt ≤ a2.toInt from by have q_18 : (r_17.2 267 6).toInt = 0 → (μ_9 267 6).toInt = 0 ∧ a1.toInt ≤ r_17.1.toInt ∧ r_17.1.toInt ≤ a2.toInt := p_16.2; omega⟩)
theorem tX12_mostOf  {a1 : Int32} {μ : gM}    : zH (fX12_mostOf a1 μ) (fun v => (a1.toInt = 0 → v.toInt = 6) ∧ (a1.toInt = 1 → v.toInt = 8) ∧ (a1.toInt = 2 → v.toInt = 5)) := by
  unfold fX12_mostOf
  refine zH_eqc (rfl : a1.toInt = _) (iL (0) (0) rfl) (fun c_1e c_1 => ?_) (fun c_1e c_1 => ?_)
  · have q_2 : (6 : Int32).toInt = (6 : Int) := (iL (6) (6) rfl)
    exact zH_some (show (a1.toInt = 0 → (6 : Int32).toInt = 6) ∧ (a1.toInt = 1 → (6 : Int32).toInt = 8) ∧ (a1.toInt = 2 → (6 : Int32).toInt = 5) from by have q_3 : (6 : Int32).toInt = (6 : Int) := (iL (6) (6) rfl); omega)
  · refine zH_eqc (rfl : a1.toInt = _) (iL (1) (1) rfl) (fun c_4e c_4 => ?_) (fun c_4e c_4 => ?_)
    · have q_5 : (8 : Int32).toInt = (8 : Int) := (iL (8) (8) rfl)
      exact zH_some (show (a1.toInt = 0 → (8 : Int32).toInt = 6) ∧ (a1.toInt = 1 → (8 : Int32).toInt = 8) ∧ (a1.toInt = 2 → (8 : Int32).toInt = 5) from by have q_6 : (8 : Int32).toInt = (8 : Int) := (iL (8) (8) rfl); omega)
    · have q_7 : (5 : Int32).toInt = (5 : Int) := (iL (5) (5) rfl)
      exact zH_some (show (a1.toInt = 0 → (5 : Int32).toInt = 6) ∧ (a1.toInt = 1 → (5 : Int32).toInt = 8) ∧ (a1.toInt = 2 → (5 : Int32).toInt = 5) from by have q_8 : (5 : Int32).toInt = (5 : Int) := (iL (5) (5) rfl); omega)
theorem tX12_of  {a1 : Int32} {a2 : Int32} {μ : gM}   (g0 : 0 ≤ a1.toInt) (g1 : a1.toInt ≤ 4) (g2 : (-1 : Int) ≤ a2.toInt) (g3 : a2.toInt ≤ 63) : zH (fX12_of a1 a2 μ) (fun v => v.toInt = 6 * a1.toInt + a2.toInt) := by
  unfold fX12_of
  have q_1 : (((6 : Int32) * a1) + a2).toInt = (((6 : Int) * a1.toInt) + a2.toInt) := (iA (iM (iL (6) (6) rfl) (rfl : a1.toInt = _) (by omega) (by omega)) (rfl : a2.toInt = _) (by omega) (by omega))
  exact zH_some (show (((6 : Int32) * a1) + a2).toInt = 6 * a1.toInt + a2.toInt from by have q_2 : (((6 : Int32) * a1) + a2).toInt = (((6 : Int) * a1.toInt) + a2.toInt) := (iA (iM (iL (6) (6) rfl) (rfl : a1.toInt = _) (by omega) (by omega)) (rfl : a2.toInt = _) (by omega) (by omega)); omega)
theorem tX12_statementHere {C : gM} {μ : gM}  (hC : hK C) (h : KL C μ)  : zH (fX12_statementHere μ) (fun r => KL C r.2 ∧ ((-1 : Int) ≤ r.1.toInt ∧ r.1.toInt ≤ 4 ∧ (r.1.toInt ≠ -1 → (r.2 267 4).toInt + (r.2 267 11).toInt ≤ 1500) ∧ (r.2 267 6).toInt = (μ 267 6).toInt)) := by
  unfold fX12_statementHere
  have q_1 : (231045 : Int32).toInt = (231045 : Int) := (iL (231045) (231045) rfl)
  refine zH_bp (tX12_isWord hC h) (fun x_2 μ_3 p_4 => ?_)
  have h_5 : KL C μ_3 := p_4.1
  have q_6 : (x_2.toInt = 0 ∨ x_2.toInt = 1) ∧ (x_2.toInt = 1 → (μ_3 267 4).toInt + (μ_3 267 11).toInt ≤ 1500) ∧ (μ_3 267 6).toInt = (μ 267 6).toInt := p_4.2
  have f_7 : 0 ≤ (μ_3 267 4).toInt ∧ (μ_3 267 4).toInt ≤ 1500 := h_5.2.2.1
  have f_8 : 0 ≤ (μ_3 267 11).toInt ∧ (μ_3 267 11).toInt ≤ 1500 := h_5.2.2.2
  refine zH_eqc (rfl : x_2.toInt = _) (iL (0) (0) rfl) (fun c_9e c_9 => ?_) (fun c_9e c_9 => ?_)
  · have q_10 : (402891 : Int32).toInt = (402891 : Int) := (iL (402891) (402891) rfl)
    refine zH_bp (tX12_isWord hC h_5) (fun x_11 μ_12 p_13 => ?_)
    have h_14 : KL C μ_12 := p_13.1
    have q_15 : (x_11.toInt = 0 ∨ x_11.toInt = 1) ∧ (x_11.toInt = 1 → (μ_12 267 4).toInt + (μ_12 267 11).toInt ≤ 1500) ∧ (μ_12 267 6).toInt = (μ_3 267 6).toInt := p_13.2
    have f_16 : 0 ≤ (μ_12 267 4).toInt ∧ (μ_12 267 4).toInt ≤ 1500 := h_14.2.2.1
    have f_17 : 0 ≤ (μ_12 267 11).toInt ∧ (μ_12 267 11).toInt ≤ 1500 := h_14.2.2.2
    refine zH_eqc (rfl : x_11.toInt = _) (iL (0) (0) rfl) (fun c_18e c_18 => ?_) (fun c_18e c_18 => ?_)
    · have q_19 : (7945904 : Int32).toInt = (7945904 : Int) := (iL (7945904) (7945904) rfl)
      refine zH_bp (tX12_isWord hC h_14) (fun x_20 μ_21 p_22 => ?_)
      have h_23 : KL C μ_21 := p_22.1
      have q_24 : (x_20.toInt = 0 ∨ x_20.toInt = 1) ∧ (x_20.toInt = 1 → (μ_21 267 4).toInt + (μ_21 267 11).toInt ≤ 1500) ∧ (μ_21 267 6).toInt = (μ_12 267 6).toInt := p_22.2
      have f_25 : 0 ≤ (μ_21 267 4).toInt ∧ (μ_21 267 4).toInt ≤ 1500 := h_23.2.2.1
      have f_26 : 0 ≤ (μ_21 267 11).toInt ∧ (μ_21 267 11).toInt ≤ 1500 := h_23.2.2.2
      refine zH_eqc (rfl : x_20.toInt = _) (iL (0) (0) rfl) (fun c_27e c_27 => ?_) (fun c_27e c_27 => ?_)
      · have q_28 : (441878706 : Int32).toInt = (441878706 : Int) := (iL (441878706) (441878706) rfl)
        refine zH_bp (tX12_isWord hC h_23) (fun x_29 μ_30 p_31 => ?_)
        have h_32 : KL C μ_30 := p_31.1
        have q_33 : (x_29.toInt = 0 ∨ x_29.toInt = 1) ∧ (x_29.toInt = 1 → (μ_30 267 4).toInt + (μ_30 267 11).toInt ≤ 1500) ∧ (μ_30 267 6).toInt = (μ_21 267 6).toInt := p_31.2
        have f_34 : 0 ≤ (μ_30 267 4).toInt ∧ (μ_30 267 4).toInt ≤ 1500 := h_32.2.2.1
        have f_35 : 0 ≤ (μ_30 267 11).toInt ∧ (μ_30 267 11).toInt ≤ 1500 := h_32.2.2.2
        refine zH_eqc (rfl : x_29.toInt = _) (iL (0) (0) rfl) (fun c_36e c_36 => ?_) (fun c_36e c_36 => ?_)
        · have q_37 : (21562475 : Int32).toInt = (21562475 : Int) := (iL (21562475) (21562475) rfl)
          refine zH_bp (tX12_isWord hC h_32) (fun x_38 μ_39 p_40 => ?_)
          have h_41 : KL C μ_39 := p_40.1
          have q_42 : (x_38.toInt = 0 ∨ x_38.toInt = 1) ∧ (x_38.toInt = 1 → (μ_39 267 4).toInt + (μ_39 267 11).toInt ≤ 1500) ∧ (μ_39 267 6).toInt = (μ_30 267 6).toInt := p_40.2
          have f_43 : 0 ≤ (μ_39 267 4).toInt ∧ (μ_39 267 4).toInt ≤ 1500 := h_41.2.2.1
          have f_44 : 0 ≤ (μ_39 267 11).toInt ∧ (μ_39 267 11).toInt ≤ 1500 := h_41.2.2.2
          refine zH_eqc (rfl : x_38.toInt = _) (iL (0) (0) rfl) (fun c_45e c_45 => ?_) (fun c_45e c_45 => ?_)
          · have q_46 : (-1 : Int32).toInt = (-1 : Int) := (iL (-1) (-1) rfl)
            exact zH_some ⟨h_41, show (-1 : Int) ≤ (-1 : Int32).toInt ∧ (-1 : Int32).toInt ≤ 4 ∧ ((-1 : Int32).toInt ≠ -1 → (μ_39 267 4).toInt + (μ_39 267 11).toInt ≤ 1500) ∧ (μ_39 267 6).toInt = (μ 267 6).toInt from by have q_47 : ((-1 : Int32)).toInt = (-1 : Int) := (iL (-1) (-1) rfl); omega⟩
          · have q_48 : (4 : Int32).toInt = (4 : Int) := (iL (4) (4) rfl)
            exact zH_some ⟨h_41, show (-1 : Int) ≤ (4 : Int32).toInt ∧ (4 : Int32).toInt ≤ 4 ∧ ((4 : Int32).toInt ≠ -1 → (μ_39 267 4).toInt + (μ_39 267 11).toInt ≤ 1500) ∧ (μ_39 267 6).toInt = (μ 267 6).toInt from by have q_49 : ((4 : Int32)).toInt = (4 : Int) := (iL (4) (4) rfl); omega⟩
        · have q_50 : (3 : Int32).toInt = (3 : Int) := (iL (3) (3) rfl)
          exact zH_some ⟨h_32, show (-1 : Int) ≤ (3 : Int32).toInt ∧ (3 : Int32).toInt ≤ 4 ∧ ((3 : Int32).toInt ≠ -1 → (μ_30 267 4).toInt + (μ_30 267 11).toInt ≤ 1500) ∧ (μ_30 267 6).toInt = (μ 267 6).toInt from by have q_51 : ((3 : Int32)).toInt = (3 : Int) := (iL (3) (3) rfl); omega⟩
      · have q_52 : (2 : Int32).toInt = (2 : Int) := (iL (2) (2) rfl)
        exact zH_some ⟨h_23, show (-1 : Int) ≤ (2 : Int32).toInt ∧ (2 : Int32).toInt ≤ 4 ∧ ((2 : Int32).toInt ≠ -1 → (μ_21 267 4).toInt + (μ_21 267 11).toInt ≤ 1500) ∧ (μ_21 267 6).toInt = (μ 267 6).toInt from by have q_53 : ((2 : Int32)).toInt = (2 : Int) := (iL (2) (2) rfl); omega⟩
    · have q_54 : (1 : Int32).toInt = (1 : Int) := (iL (1) (1) rfl)
      exact zH_some ⟨h_14, show (-1 : Int) ≤ (1 : Int32).toInt ∧ (1 : Int32).toInt ≤ 4 ∧ ((1 : Int32).toInt ≠ -1 → (μ_12 267 4).toInt + (μ_12 267 11).toInt ≤ 1500) ∧ (μ_12 267 6).toInt = (μ 267 6).toInt from by have q_55 : ((1 : Int32)).toInt = (1 : Int) := (iL (1) (1) rfl); omega⟩
  · have q_56 : (0 : Int32).toInt = (0 : Int) := (iL (0) (0) rfl)
    exact zH_some ⟨h_5, show (-1 : Int) ≤ (0 : Int32).toInt ∧ (0 : Int32).toInt ≤ 4 ∧ ((0 : Int32).toInt ≠ -1 → (μ_3 267 4).toInt + (μ_3 267 11).toInt ≤ 1500) ∧ (μ_3 267 6).toInt = (μ 267 6).toInt from by have q_57 : ((0 : Int32)).toInt = (0 : Int) := (iL (0) (0) rfl); omega⟩
