theorem jm_lt {j : Nat} (h : j < 359) : jmOKx j = true := by
  rcases Nat.lt_or_ge j 179 with h9 | h9
  · skip
    rcases Nat.lt_or_ge j 89 with h9 | h9
    · skip
      rcases Nat.lt_or_ge j 44 with h9 | h9
      · skip
        rcases Nat.lt_or_ge j 22 with h9 | h9
        · skip
          rcases Nat.lt_or_ge j 11 with h9 | h9
          · skip
            rcases Nat.lt_or_ge j 5 with h9 | h9
            · skip
              rcases Nat.lt_or_ge j 2 with h9 | h9
              · skip
                rcases Nat.lt_or_ge j 1 with h9 | h9
                · skip
                  have e9 : j = 0 := by omega
                  subst e9
                  exact jmOKx_of jm_0
                · skip
                  have e9 : j = 1 := by omega
                  subst e9
                  exact jmOKx_of jm_1
              · skip
                rcases Nat.lt_or_ge j 3 with h9 | h9
                · skip
                  have e9 : j = 2 := by omega
                  subst e9
                  exact jmOKx_of jm_2
                · skip
                  rcases Nat.lt_or_ge j 4 with h9 | h9
                  · skip
                    have e9 : j = 3 := by omega
                    subst e9
                    exact jmOKx_of jm_3
                  · skip
                    have e9 : j = 4 := by omega
                    subst e9
                    exact jmOKx_of jm_4
            · skip
              rcases Nat.lt_or_ge j 8 with h9 | h9
              · skip
                rcases Nat.lt_or_ge j 6 with h9 | h9
                · skip
                  have e9 : j = 5 := by omega
                  subst e9
                  exact jmOKx_of jm_5
                · skip
                  rcases Nat.lt_or_ge j 7 with h9 | h9
                  · skip
                    have e9 : j = 6 := by omega
                    subst e9
                    exact jmOKx_of jm_6
                  · skip
                    have e9 : j = 7 := by omega
                    subst e9
                    exact jmOKx_of jm_7
              · skip
                rcases Nat.lt_or_ge j 9 with h9 | h9
                · skip
                  have e9 : j = 8 := by omega
                  subst e9
                  exact jmOKx_of jm_8
                · skip
                  rcases Nat.lt_or_ge j 10 with h9 | h9
                  · skip
                    have e9 : j = 9 := by omega
                    subst e9
                    exact jmOKx_of jm_9
                  · skip
                    have e9 : j = 10 := by omega
                    subst e9
                    exact jmOKx_of jm_10
          · skip
            rcases Nat.lt_or_ge j 16 with h9 | h9
            · skip
              rcases Nat.lt_or_ge j 13 with h9 | h9
              · skip
                rcases Nat.lt_or_ge j 12 with h9 | h9
                · skip
                  have e9 : j = 11 := by omega
                  subst e9
                  exact jmOKx_of jm_11
                · skip
                  have e9 : j = 12 := by omega
                  subst e9
                  exact jmOKx_of jm_12
              · skip
                rcases Nat.lt_or_ge j 14 with h9 | h9
                · skip
                  have e9 : j = 13 := by omega
                  subst e9
                  exact jmOKx_of jm_13
                · skip
                  rcases Nat.lt_or_ge j 15 with h9 | h9
                  · skip
                    have e9 : j = 14 := by omega
                    subst e9
                    exact jmOKx_of jm_14
                  · skip
                    have e9 : j = 15 := by omega
                    subst e9
                    exact jmOKx_of jm_15
            · skip
              rcases Nat.lt_or_ge j 19 with h9 | h9
              · skip
                rcases Nat.lt_or_ge j 17 with h9 | h9
                · skip
                  have e9 : j = 16 := by omega
                  subst e9
                  exact jmOKx_of jm_16
                · skip
                  rcases Nat.lt_or_ge j 18 with h9 | h9
                  · skip
                    have e9 : j = 17 := by omega
                    subst e9
                    exact jmOKx_of jm_17
                  · skip
                    have e9 : j = 18 := by omega
                    subst e9
                    exact jmOKx_of jm_18
              · skip
                rcases Nat.lt_or_ge j 20 with h9 | h9
                · skip
                  have e9 : j = 19 := by omega
                  subst e9
                  exact jmOKx_of jm_19
                · skip
                  rcases Nat.lt_or_ge j 21 with h9 | h9
                  · skip
                    have e9 : j = 20 := by omega
                    subst e9
                    exact jmOKx_of jm_20
                  · skip
                    have e9 : j = 21 := by omega
                    subst e9
                    exact jmOKx_of jm_21
        · skip
          rcases Nat.lt_or_ge j 33 with h9 | h9
          · skip
            rcases Nat.lt_or_ge j 27 with h9 | h9
            · skip
              rcases Nat.lt_or_ge j 24 with h9 | h9
              · skip
                rcases Nat.lt_or_ge j 23 with h9 | h9
                · skip
                  have e9 : j = 22 := by omega
                  subst e9
                  exact jmOKx_of jm_22
                · skip
                  have e9 : j = 23 := by omega
                  subst e9
                  exact jmOKx_of jm_23
              · skip
                rcases Nat.lt_or_ge j 25 with h9 | h9
                · skip
                  have e9 : j = 24 := by omega
                  subst e9
                  exact jmOKx_of jm_24
                · skip
                  rcases Nat.lt_or_ge j 26 with h9 | h9
                  · skip
                    have e9 : j = 25 := by omega
                    subst e9
                    exact jmOKx_of jm_25
                  · skip
                    have e9 : j = 26 := by omega
                    subst e9
                    exact jmOKx_of jm_26
            · skip
              rcases Nat.lt_or_ge j 30 with h9 | h9
              · skip
                rcases Nat.lt_or_ge j 28 with h9 | h9
                · skip
                  have e9 : j = 27 := by omega
                  subst e9
                  exact jmOKx_of jm_27
                · skip
                  rcases Nat.lt_or_ge j 29 with h9 | h9
                  · skip
                    have e9 : j = 28 := by omega
                    subst e9
                    exact jmOKx_of jm_28
                  · skip
                    have e9 : j = 29 := by omega
                    subst e9
                    exact jmOKx_of jm_29
              · skip
                rcases Nat.lt_or_ge j 31 with h9 | h9
                · skip
                  have e9 : j = 30 := by omega
                  subst e9
                  exact jmOKx_of jm_30
                · skip
                  rcases Nat.lt_or_ge j 32 with h9 | h9
                  · skip
                    have e9 : j = 31 := by omega
                    subst e9
                    exact jmOKx_of jm_31
                  · skip
                    have e9 : j = 32 := by omega
                    subst e9
                    exact jmOKx_of jm_32
          · skip
            rcases Nat.lt_or_ge j 38 with h9 | h9
            · skip
              rcases Nat.lt_or_ge j 35 with h9 | h9
              · skip
                rcases Nat.lt_or_ge j 34 with h9 | h9
                · skip
                  have e9 : j = 33 := by omega
                  subst e9
                  exact jmOKx_of jm_33
                · skip
                  have e9 : j = 34 := by omega
                  subst e9
                  exact jmOKx_of jm_34
              · skip
                rcases Nat.lt_or_ge j 36 with h9 | h9
                · skip
                  have e9 : j = 35 := by omega
                  subst e9
                  exact jmOKx_of jm_35
                · skip
                  rcases Nat.lt_or_ge j 37 with h9 | h9
                  · skip
                    have e9 : j = 36 := by omega
                    subst e9
                    exact jmOKx_of jm_36
                  · skip
                    have e9 : j = 37 := by omega
                    subst e9
                    exact jmOKx_of jm_37
            · skip
              rcases Nat.lt_or_ge j 41 with h9 | h9
              · skip
                rcases Nat.lt_or_ge j 39 with h9 | h9
                · skip
                  have e9 : j = 38 := by omega
                  subst e9
                  exact jmOKx_of jm_38
                · skip
                  rcases Nat.lt_or_ge j 40 with h9 | h9
                  · skip
                    have e9 : j = 39 := by omega
                    subst e9
                    exact jmOKx_of jm_39
                  · skip
                    have e9 : j = 40 := by omega
                    subst e9
                    exact jmOKx_of jm_40
              · skip
                rcases Nat.lt_or_ge j 42 with h9 | h9
                · skip
                  have e9 : j = 41 := by omega
                  subst e9
                  exact jmOKx_of jm_41
                · skip
                  rcases Nat.lt_or_ge j 43 with h9 | h9
                  · skip
                    have e9 : j = 42 := by omega
                    subst e9
                    exact jmOKx_of jm_42
                  · skip
                    have e9 : j = 43 := by omega
                    subst e9
                    exact jmOKx_of jm_43
      · skip
        rcases Nat.lt_or_ge j 66 with h9 | h9
        · skip
          rcases Nat.lt_or_ge j 55 with h9 | h9
          · skip
            rcases Nat.lt_or_ge j 49 with h9 | h9
            · skip
              rcases Nat.lt_or_ge j 46 with h9 | h9
              · skip
                rcases Nat.lt_or_ge j 45 with h9 | h9
                · skip
                  have e9 : j = 44 := by omega
                  subst e9
                  exact jmOKx_of jm_44
                · skip
                  have e9 : j = 45 := by omega
                  subst e9
                  exact jmOKx_of jm_45
              · skip
                rcases Nat.lt_or_ge j 47 with h9 | h9
                · skip
                  have e9 : j = 46 := by omega
                  subst e9
                  exact jmOKx_of jm_46
                · skip
                  rcases Nat.lt_or_ge j 48 with h9 | h9
                  · skip
                    have e9 : j = 47 := by omega
                    subst e9
                    exact jmOKx_of jm_47
                  · skip
                    have e9 : j = 48 := by omega
                    subst e9
                    exact jmOKx_of jm_48
            · skip
              rcases Nat.lt_or_ge j 52 with h9 | h9
              · skip
                rcases Nat.lt_or_ge j 50 with h9 | h9
                · skip
                  have e9 : j = 49 := by omega
                  subst e9
                  exact jmOKx_of jm_49
                · skip
                  rcases Nat.lt_or_ge j 51 with h9 | h9
                  · skip
                    have e9 : j = 50 := by omega
                    subst e9
                    exact jmOKx_of jm_50
                  · skip
                    have e9 : j = 51 := by omega
                    subst e9
                    exact jmOKx_of jm_51
              · skip
                rcases Nat.lt_or_ge j 53 with h9 | h9
                · skip
                  have e9 : j = 52 := by omega
                  subst e9
                  exact jmOKx_of jm_52
                · skip
                  rcases Nat.lt_or_ge j 54 with h9 | h9
                  · skip
                    have e9 : j = 53 := by omega
                    subst e9
                    exact jmOKx_of jm_53
                  · skip
                    have e9 : j = 54 := by omega
                    subst e9
                    exact jmOKx_of jm_54
          · skip
            rcases Nat.lt_or_ge j 60 with h9 | h9
            · skip
              rcases Nat.lt_or_ge j 57 with h9 | h9
              · skip
                rcases Nat.lt_or_ge j 56 with h9 | h9
                · skip
                  have e9 : j = 55 := by omega
                  subst e9
                  exact jmOKx_of jm_55
                · skip
                  have e9 : j = 56 := by omega
                  subst e9
                  exact jmOKx_of jm_56
              · skip
                rcases Nat.lt_or_ge j 58 with h9 | h9
                · skip
                  have e9 : j = 57 := by omega
                  subst e9
                  exact jmOKx_of jm_57
                · skip
                  rcases Nat.lt_or_ge j 59 with h9 | h9
                  · skip
                    have e9 : j = 58 := by omega
                    subst e9
                    exact jmOKx_of jm_58
                  · skip
                    have e9 : j = 59 := by omega
                    subst e9
                    exact jmOKx_of jm_59
            · skip
              rcases Nat.lt_or_ge j 63 with h9 | h9
              · skip
                rcases Nat.lt_or_ge j 61 with h9 | h9
                · skip
                  have e9 : j = 60 := by omega
                  subst e9
                  exact jmOKx_of jm_60
                · skip
                  rcases Nat.lt_or_ge j 62 with h9 | h9
                  · skip
                    have e9 : j = 61 := by omega
                    subst e9
                    exact jmOKx_of jm_61
                  · skip
                    have e9 : j = 62 := by omega
                    subst e9
                    exact jmOKx_of jm_62
              · skip
                rcases Nat.lt_or_ge j 64 with h9 | h9
                · skip
                  have e9 : j = 63 := by omega
                  subst e9
                  exact jmOKx_of jm_63
                · skip
                  rcases Nat.lt_or_ge j 65 with h9 | h9
                  · skip
                    have e9 : j = 64 := by omega
                    subst e9
                    exact jmOKx_of jm_64
                  · skip
                    have e9 : j = 65 := by omega
                    subst e9
                    exact jmOKx_of jm_65
        · skip
          rcases Nat.lt_or_ge j 77 with h9 | h9
          · skip
            rcases Nat.lt_or_ge j 71 with h9 | h9
            · skip
              rcases Nat.lt_or_ge j 68 with h9 | h9
              · skip
                rcases Nat.lt_or_ge j 67 with h9 | h9
                · skip
                  have e9 : j = 66 := by omega
                  subst e9
                  exact jmOKx_of jm_66
                · skip
                  have e9 : j = 67 := by omega
                  subst e9
                  exact jmOKx_of jm_67
              · skip
                rcases Nat.lt_or_ge j 69 with h9 | h9
                · skip
                  have e9 : j = 68 := by omega
                  subst e9
                  exact jmOKx_of jm_68
                · skip
                  rcases Nat.lt_or_ge j 70 with h9 | h9
                  · skip
                    have e9 : j = 69 := by omega
                    subst e9
                    exact jmOKx_of jm_69
                  · skip
                    have e9 : j = 70 := by omega
                    subst e9
                    exact jmOKx_of jm_70
            · skip
              rcases Nat.lt_or_ge j 74 with h9 | h9
              · skip
                rcases Nat.lt_or_ge j 72 with h9 | h9
                · skip
                  have e9 : j = 71 := by omega
                  subst e9
                  exact jmOKx_of jm_71
                · skip
                  rcases Nat.lt_or_ge j 73 with h9 | h9
                  · skip
                    have e9 : j = 72 := by omega
                    subst e9
                    exact jmOKx_of jm_72
                  · skip
                    have e9 : j = 73 := by omega
                    subst e9
                    exact jmOKx_of jm_73
              · skip
                rcases Nat.lt_or_ge j 75 with h9 | h9
                · skip
                  have e9 : j = 74 := by omega
                  subst e9
                  exact jmOKx_of jm_74
                · skip
                  rcases Nat.lt_or_ge j 76 with h9 | h9
                  · skip
                    have e9 : j = 75 := by omega
                    subst e9
                    exact jmOKx_of jm_75
                  · skip
                    have e9 : j = 76 := by omega
                    subst e9
                    exact jmOKx_of jm_76
          · skip
            rcases Nat.lt_or_ge j 83 with h9 | h9
            · skip
              rcases Nat.lt_or_ge j 80 with h9 | h9
              · skip
                rcases Nat.lt_or_ge j 78 with h9 | h9
                · skip
                  have e9 : j = 77 := by omega
                  subst e9
                  exact jmOKx_of jm_77
                · skip
                  rcases Nat.lt_or_ge j 79 with h9 | h9
                  · skip
                    have e9 : j = 78 := by omega
                    subst e9
                    exact jmOKx_of jm_78
                  · skip
                    have e9 : j = 79 := by omega
                    subst e9
                    exact jmOKx_of jm_79
              · skip
                rcases Nat.lt_or_ge j 81 with h9 | h9
                · skip
                  have e9 : j = 80 := by omega
                  subst e9
                  exact jmOKx_of jm_80
                · skip
                  rcases Nat.lt_or_ge j 82 with h9 | h9
                  · skip
                    have e9 : j = 81 := by omega
                    subst e9
                    exact jmOKx_of jm_81
                  · skip
                    have e9 : j = 82 := by omega
                    subst e9
                    exact jmOKx_of jm_82
            · skip
              rcases Nat.lt_or_ge j 86 with h9 | h9
              · skip
                rcases Nat.lt_or_ge j 84 with h9 | h9
                · skip
                  have e9 : j = 83 := by omega
                  subst e9
                  exact jmOKx_of jm_83
                · skip
                  rcases Nat.lt_or_ge j 85 with h9 | h9
                  · skip
                    have e9 : j = 84 := by omega
                    subst e9
                    exact jmOKx_of jm_84
                  · skip
                    have e9 : j = 85 := by omega
                    subst e9
                    exact jmOKx_of jm_85
              · skip
                rcases Nat.lt_or_ge j 87 with h9 | h9
                · skip
                  have e9 : j = 86 := by omega
                  subst e9
                  exact jmOKx_of jm_86
                · skip
                  rcases Nat.lt_or_ge j 88 with h9 | h9
                  · skip
                    have e9 : j = 87 := by omega
                    subst e9
                    exact jmOKx_of jm_87
                  · skip
                    have e9 : j = 88 := by omega
                    subst e9
                    exact jmOKx_of jm_88
    · skip
      rcases Nat.lt_or_ge j 134 with h9 | h9
      · skip
        rcases Nat.lt_or_ge j 111 with h9 | h9
        · skip
          rcases Nat.lt_or_ge j 100 with h9 | h9
          · skip
            rcases Nat.lt_or_ge j 94 with h9 | h9
            · skip
              rcases Nat.lt_or_ge j 91 with h9 | h9
              · skip
                rcases Nat.lt_or_ge j 90 with h9 | h9
                · skip
                  have e9 : j = 89 := by omega
                  subst e9
                  exact jmOKx_of jm_89
                · skip
                  have e9 : j = 90 := by omega
                  subst e9
                  exact jmOKx_of jm_90
              · skip
                rcases Nat.lt_or_ge j 92 with h9 | h9
                · skip
                  have e9 : j = 91 := by omega
                  subst e9
                  exact jmOKx_of jm_91
                · skip
                  rcases Nat.lt_or_ge j 93 with h9 | h9
                  · skip
                    have e9 : j = 92 := by omega
                    subst e9
                    exact jmOKx_of jm_92
                  · skip
                    have e9 : j = 93 := by omega
                    subst e9
                    exact jmOKx_of jm_93
            · skip
              rcases Nat.lt_or_ge j 97 with h9 | h9
              · skip
                rcases Nat.lt_or_ge j 95 with h9 | h9
                · skip
                  have e9 : j = 94 := by omega
                  subst e9
                  exact jmOKx_of jm_94
                · skip
                  rcases Nat.lt_or_ge j 96 with h9 | h9
                  · skip
                    have e9 : j = 95 := by omega
                    subst e9
                    exact jmOKx_of jm_95
                  · skip
                    have e9 : j = 96 := by omega
                    subst e9
                    exact jmOKx_of jm_96
              · skip
                rcases Nat.lt_or_ge j 98 with h9 | h9
                · skip
                  have e9 : j = 97 := by omega
                  subst e9
                  exact jmOKx_of jm_97
                · skip
                  rcases Nat.lt_or_ge j 99 with h9 | h9
                  · skip
                    have e9 : j = 98 := by omega
                    subst e9
                    exact jmOKx_of jm_98
                  · skip
                    have e9 : j = 99 := by omega
                    subst e9
                    exact jmOKx_of jm_99
          · skip
            rcases Nat.lt_or_ge j 105 with h9 | h9
            · skip
              rcases Nat.lt_or_ge j 102 with h9 | h9
              · skip
                rcases Nat.lt_or_ge j 101 with h9 | h9
                · skip
                  have e9 : j = 100 := by omega
                  subst e9
                  exact jmOKx_of jm_100
                · skip
                  have e9 : j = 101 := by omega
                  subst e9
                  exact jmOKx_of jm_101
              · skip
                rcases Nat.lt_or_ge j 103 with h9 | h9
                · skip
                  have e9 : j = 102 := by omega
                  subst e9
                  exact jmOKx_of jm_102
                · skip
                  rcases Nat.lt_or_ge j 104 with h9 | h9
                  · skip
                    have e9 : j = 103 := by omega
                    subst e9
                    exact jmOKx_of jm_103
                  · skip
                    have e9 : j = 104 := by omega
                    subst e9
                    exact jmOKx_of jm_104
            · skip
              rcases Nat.lt_or_ge j 108 with h9 | h9
              · skip
                rcases Nat.lt_or_ge j 106 with h9 | h9
                · skip
                  have e9 : j = 105 := by omega
                  subst e9
                  exact jmOKx_of jm_105
                · skip
                  rcases Nat.lt_or_ge j 107 with h9 | h9
                  · skip
                    have e9 : j = 106 := by omega
                    subst e9
                    exact jmOKx_of jm_106
                  · skip
                    have e9 : j = 107 := by omega
                    subst e9
                    exact jmOKx_of jm_107
              · skip
                rcases Nat.lt_or_ge j 109 with h9 | h9
                · skip
                  have e9 : j = 108 := by omega
                  subst e9
                  exact jmOKx_of jm_108
                · skip
                  rcases Nat.lt_or_ge j 110 with h9 | h9
                  · skip
                    have e9 : j = 109 := by omega
                    subst e9
                    exact jmOKx_of jm_109
                  · skip
                    have e9 : j = 110 := by omega
                    subst e9
                    exact jmOKx_of jm_110
        · skip
          rcases Nat.lt_or_ge j 122 with h9 | h9
          · skip
            rcases Nat.lt_or_ge j 116 with h9 | h9
            · skip
              rcases Nat.lt_or_ge j 113 with h9 | h9
              · skip
                rcases Nat.lt_or_ge j 112 with h9 | h9
                · skip
                  have e9 : j = 111 := by omega
                  subst e9
                  exact jmOKx_of jm_111
                · skip
                  have e9 : j = 112 := by omega
                  subst e9
                  exact jmOKx_of jm_112
              · skip
                rcases Nat.lt_or_ge j 114 with h9 | h9
                · skip
                  have e9 : j = 113 := by omega
                  subst e9
                  exact jmOKx_of jm_113
                · skip
                  rcases Nat.lt_or_ge j 115 with h9 | h9
                  · skip
                    have e9 : j = 114 := by omega
                    subst e9
                    exact jmOKx_of jm_114
                  · skip
                    have e9 : j = 115 := by omega
                    subst e9
                    exact jmOKx_of jm_115
            · skip
              rcases Nat.lt_or_ge j 119 with h9 | h9
              · skip
                rcases Nat.lt_or_ge j 117 with h9 | h9
                · skip
                  have e9 : j = 116 := by omega
                  subst e9
                  exact jmOKx_of jm_116
                · skip
                  rcases Nat.lt_or_ge j 118 with h9 | h9
                  · skip
                    have e9 : j = 117 := by omega
                    subst e9
                    exact jmOKx_of jm_117
                  · skip
                    have e9 : j = 118 := by omega
                    subst e9
                    exact jmOKx_of jm_118
              · skip
                rcases Nat.lt_or_ge j 120 with h9 | h9
                · skip
                  have e9 : j = 119 := by omega
                  subst e9
                  exact jmOKx_of jm_119
                · skip
                  rcases Nat.lt_or_ge j 121 with h9 | h9
                  · skip
                    have e9 : j = 120 := by omega
                    subst e9
                    exact jmOKx_of jm_120
                  · skip
                    have e9 : j = 121 := by omega
                    subst e9
                    exact jmOKx_of jm_121
          · skip
            rcases Nat.lt_or_ge j 128 with h9 | h9
            · skip
              rcases Nat.lt_or_ge j 125 with h9 | h9
              · skip
                rcases Nat.lt_or_ge j 123 with h9 | h9
                · skip
                  have e9 : j = 122 := by omega
                  subst e9
                  exact jmOKx_of jm_122
                · skip
                  rcases Nat.lt_or_ge j 124 with h9 | h9
                  · skip
                    have e9 : j = 123 := by omega
                    subst e9
                    exact jmOKx_of jm_123
                  · skip
                    have e9 : j = 124 := by omega
                    subst e9
                    exact jmOKx_of jm_124
              · skip
                rcases Nat.lt_or_ge j 126 with h9 | h9
                · skip
                  have e9 : j = 125 := by omega
                  subst e9
                  exact jmOKx_of jm_125
                · skip
                  rcases Nat.lt_or_ge j 127 with h9 | h9
                  · skip
                    have e9 : j = 126 := by omega
                    subst e9
                    exact jmOKx_of jm_126
                  · skip
                    have e9 : j = 127 := by omega
                    subst e9
                    exact jmOKx_of jm_127
            · skip
              rcases Nat.lt_or_ge j 131 with h9 | h9
              · skip
                rcases Nat.lt_or_ge j 129 with h9 | h9
                · skip
                  have e9 : j = 128 := by omega
                  subst e9
                  exact jmOKx_of jm_128
                · skip
                  rcases Nat.lt_or_ge j 130 with h9 | h9
                  · skip
                    have e9 : j = 129 := by omega
                    subst e9
                    exact jmOKx_of jm_129
                  · skip
                    have e9 : j = 130 := by omega
                    subst e9
                    exact jmOKx_of jm_130
              · skip
                rcases Nat.lt_or_ge j 132 with h9 | h9
                · skip
                  have e9 : j = 131 := by omega
                  subst e9
                  exact jmOKx_of jm_131
                · skip
                  rcases Nat.lt_or_ge j 133 with h9 | h9
                  · skip
                    have e9 : j = 132 := by omega
                    subst e9
                    exact jmOKx_of jm_132
                  · skip
                    have e9 : j = 133 := by omega
                    subst e9
                    exact jmOKx_of jm_133
      · skip
        rcases Nat.lt_or_ge j 156 with h9 | h9
        · skip
          rcases Nat.lt_or_ge j 145 with h9 | h9
          · skip
            rcases Nat.lt_or_ge j 139 with h9 | h9
            · skip
              rcases Nat.lt_or_ge j 136 with h9 | h9
              · skip
                rcases Nat.lt_or_ge j 135 with h9 | h9
                · skip
                  have e9 : j = 134 := by omega
                  subst e9
                  exact jmOKx_of jm_134
                · skip
                  have e9 : j = 135 := by omega
                  subst e9
                  exact jmOKx_of jm_135
              · skip
                rcases Nat.lt_or_ge j 137 with h9 | h9
                · skip
                  have e9 : j = 136 := by omega
                  subst e9
                  exact jmOKx_of jm_136
                · skip
                  rcases Nat.lt_or_ge j 138 with h9 | h9
                  · skip
                    have e9 : j = 137 := by omega
                    subst e9
                    exact jmOKx_of jm_137
                  · skip
                    have e9 : j = 138 := by omega
                    subst e9
                    exact jmOKx_of jm_138
            · skip
              rcases Nat.lt_or_ge j 142 with h9 | h9
              · skip
                rcases Nat.lt_or_ge j 140 with h9 | h9
                · skip
                  have e9 : j = 139 := by omega
                  subst e9
                  exact jmOKx_of jm_139
                · skip
                  rcases Nat.lt_or_ge j 141 with h9 | h9
                  · skip
                    have e9 : j = 140 := by omega
                    subst e9
                    exact jmOKx_of jm_140
                  · skip
                    have e9 : j = 141 := by omega
                    subst e9
                    exact jmOKx_of jm_141
              · skip
                rcases Nat.lt_or_ge j 143 with h9 | h9
                · skip
                  have e9 : j = 142 := by omega
                  subst e9
                  exact jmOKx_of jm_142
                · skip
                  rcases Nat.lt_or_ge j 144 with h9 | h9
                  · skip
                    have e9 : j = 143 := by omega
                    subst e9
                    exact jmOKx_of jm_143
                  · skip
                    have e9 : j = 144 := by omega
                    subst e9
                    exact jmOKx_of jm_144
          · skip
            rcases Nat.lt_or_ge j 150 with h9 | h9
            · skip
              rcases Nat.lt_or_ge j 147 with h9 | h9
              · skip
                rcases Nat.lt_or_ge j 146 with h9 | h9
                · skip
                  have e9 : j = 145 := by omega
                  subst e9
                  exact jmOKx_of jm_145
                · skip
                  have e9 : j = 146 := by omega
                  subst e9
                  exact jmOKx_of jm_146
              · skip
                rcases Nat.lt_or_ge j 148 with h9 | h9
                · skip
                  have e9 : j = 147 := by omega
                  subst e9
                  exact jmOKx_of jm_147
                · skip
                  rcases Nat.lt_or_ge j 149 with h9 | h9
                  · skip
                    have e9 : j = 148 := by omega
                    subst e9
                    exact jmOKx_of jm_148
                  · skip
                    have e9 : j = 149 := by omega
                    subst e9
                    exact jmOKx_of jm_149
            · skip
              rcases Nat.lt_or_ge j 153 with h9 | h9
              · skip
                rcases Nat.lt_or_ge j 151 with h9 | h9
                · skip
                  have e9 : j = 150 := by omega
                  subst e9
                  exact jmOKx_of jm_150
                · skip
                  rcases Nat.lt_or_ge j 152 with h9 | h9
                  · skip
                    have e9 : j = 151 := by omega
                    subst e9
                    exact jmOKx_of jm_151
                  · skip
                    have e9 : j = 152 := by omega
                    subst e9
                    exact jmOKx_of jm_152
              · skip
                rcases Nat.lt_or_ge j 154 with h9 | h9
                · skip
                  have e9 : j = 153 := by omega
                  subst e9
                  exact jmOKx_of jm_153
                · skip
                  rcases Nat.lt_or_ge j 155 with h9 | h9
                  · skip
                    have e9 : j = 154 := by omega
                    subst e9
                    exact jmOKx_of jm_154
                  · skip
                    have e9 : j = 155 := by omega
                    subst e9
                    exact jmOKx_of jm_155
        · skip
          rcases Nat.lt_or_ge j 167 with h9 | h9
          · skip
            rcases Nat.lt_or_ge j 161 with h9 | h9
            · skip
              rcases Nat.lt_or_ge j 158 with h9 | h9
              · skip
                rcases Nat.lt_or_ge j 157 with h9 | h9
                · skip
                  have e9 : j = 156 := by omega
                  subst e9
                  exact jmOKx_of jm_156
                · skip
                  have e9 : j = 157 := by omega
                  subst e9
                  exact jmOKx_of jm_157
              · skip
                rcases Nat.lt_or_ge j 159 with h9 | h9
                · skip
                  have e9 : j = 158 := by omega
                  subst e9
                  exact jmOKx_of jm_158
                · skip
                  rcases Nat.lt_or_ge j 160 with h9 | h9
                  · skip
                    have e9 : j = 159 := by omega
                    subst e9
                    exact jmOKx_of jm_159
                  · skip
                    have e9 : j = 160 := by omega
                    subst e9
                    exact jmOKx_of jm_160
            · skip
              rcases Nat.lt_or_ge j 164 with h9 | h9
              · skip
                rcases Nat.lt_or_ge j 162 with h9 | h9
                · skip
                  have e9 : j = 161 := by omega
                  subst e9
                  exact jmOKx_of jm_161
                · skip
                  rcases Nat.lt_or_ge j 163 with h9 | h9
                  · skip
                    have e9 : j = 162 := by omega
                    subst e9
                    exact jmOKx_of jm_162
                  · skip
                    have e9 : j = 163 := by omega
                    subst e9
                    exact jmOKx_of jm_163
              · skip
                rcases Nat.lt_or_ge j 165 with h9 | h9
                · skip
                  have e9 : j = 164 := by omega
                  subst e9
                  exact jmOKx_of jm_164
                · skip
                  rcases Nat.lt_or_ge j 166 with h9 | h9
                  · skip
                    have e9 : j = 165 := by omega
                    subst e9
                    exact jmOKx_of jm_165
                  · skip
                    have e9 : j = 166 := by omega
                    subst e9
                    exact jmOKx_of jm_166
          · skip
            rcases Nat.lt_or_ge j 173 with h9 | h9
            · skip
              rcases Nat.lt_or_ge j 170 with h9 | h9
              · skip
                rcases Nat.lt_or_ge j 168 with h9 | h9
                · skip
                  have e9 : j = 167 := by omega
                  subst e9
                  exact jmOKx_of jm_167
                · skip
                  rcases Nat.lt_or_ge j 169 with h9 | h9
                  · skip
                    have e9 : j = 168 := by omega
                    subst e9
                    exact jmOKx_of jm_168
                  · skip
                    have e9 : j = 169 := by omega
                    subst e9
                    exact jmOKx_of jm_169
              · skip
                rcases Nat.lt_or_ge j 171 with h9 | h9
                · skip
                  have e9 : j = 170 := by omega
                  subst e9
                  exact jmOKx_of jm_170
                · skip
                  rcases Nat.lt_or_ge j 172 with h9 | h9
                  · skip
                    have e9 : j = 171 := by omega
                    subst e9
                    exact jmOKx_of jm_171
                  · skip
                    have e9 : j = 172 := by omega
                    subst e9
                    exact jmOKx_of jm_172
            · skip
              rcases Nat.lt_or_ge j 176 with h9 | h9
              · skip
                rcases Nat.lt_or_ge j 174 with h9 | h9
                · skip
                  have e9 : j = 173 := by omega
                  subst e9
                  exact jmOKx_of jm_173
                · skip
                  rcases Nat.lt_or_ge j 175 with h9 | h9
                  · skip
                    have e9 : j = 174 := by omega
                    subst e9
                    exact jmOKx_of jm_174
                  · skip
                    have e9 : j = 175 := by omega
                    subst e9
                    exact jmOKx_of jm_175
              · skip
                rcases Nat.lt_or_ge j 177 with h9 | h9
                · skip
                  have e9 : j = 176 := by omega
                  subst e9
                  exact jmOKx_of jm_176
                · skip
                  rcases Nat.lt_or_ge j 178 with h9 | h9
                  · skip
                    have e9 : j = 177 := by omega
                    subst e9
                    exact jmOKx_of jm_177
                  · skip
                    have e9 : j = 178 := by omega
                    subst e9
                    exact jmOKx_of jm_178
  · skip
    rcases Nat.lt_or_ge j 269 with h9 | h9
    · skip
      rcases Nat.lt_or_ge j 224 with h9 | h9
      · skip
        rcases Nat.lt_or_ge j 201 with h9 | h9
        · skip
          rcases Nat.lt_or_ge j 190 with h9 | h9
          · skip
            rcases Nat.lt_or_ge j 184 with h9 | h9
            · skip
              rcases Nat.lt_or_ge j 181 with h9 | h9
              · skip
                rcases Nat.lt_or_ge j 180 with h9 | h9
                · skip
                  have e9 : j = 179 := by omega
                  subst e9
                  exact jmOKx_of jm_179
                · skip
                  have e9 : j = 180 := by omega
                  subst e9
                  exact jmOKx_of jm_180
              · skip
                rcases Nat.lt_or_ge j 182 with h9 | h9
                · skip
                  have e9 : j = 181 := by omega
                  subst e9
                  exact jmOKx_of jm_181
                · skip
                  rcases Nat.lt_or_ge j 183 with h9 | h9
                  · skip
                    have e9 : j = 182 := by omega
                    subst e9
                    exact jmOKx_of jm_182
                  · skip
                    have e9 : j = 183 := by omega
                    subst e9
                    exact jmOKx_of jm_183
            · skip
              rcases Nat.lt_or_ge j 187 with h9 | h9
              · skip
                rcases Nat.lt_or_ge j 185 with h9 | h9
                · skip
                  have e9 : j = 184 := by omega
                  subst e9
                  exact jmOKx_of jm_184
                · skip
                  rcases Nat.lt_or_ge j 186 with h9 | h9
                  · skip
                    have e9 : j = 185 := by omega
                    subst e9
                    exact jmOKx_of jm_185
                  · skip
                    have e9 : j = 186 := by omega
                    subst e9
                    exact jmOKx_of jm_186
              · skip
                rcases Nat.lt_or_ge j 188 with h9 | h9
                · skip
                  have e9 : j = 187 := by omega
                  subst e9
                  exact jmOKx_of jm_187
                · skip
                  rcases Nat.lt_or_ge j 189 with h9 | h9
                  · skip
                    have e9 : j = 188 := by omega
                    subst e9
                    exact jmOKx_of jm_188
                  · skip
                    have e9 : j = 189 := by omega
                    subst e9
                    exact jmOKx_of jm_189
          · skip
            rcases Nat.lt_or_ge j 195 with h9 | h9
            · skip
              rcases Nat.lt_or_ge j 192 with h9 | h9
              · skip
                rcases Nat.lt_or_ge j 191 with h9 | h9
                · skip
                  have e9 : j = 190 := by omega
                  subst e9
                  exact jmOKx_of jm_190
                · skip
                  have e9 : j = 191 := by omega
                  subst e9
                  exact jmOKx_of jm_191
              · skip
                rcases Nat.lt_or_ge j 193 with h9 | h9
                · skip
                  have e9 : j = 192 := by omega
                  subst e9
                  exact jmOKx_of jm_192
                · skip
                  rcases Nat.lt_or_ge j 194 with h9 | h9
                  · skip
                    have e9 : j = 193 := by omega
                    subst e9
                    exact jmOKx_of jm_193
                  · skip
                    have e9 : j = 194 := by omega
                    subst e9
                    exact jmOKx_of jm_194
            · skip
              rcases Nat.lt_or_ge j 198 with h9 | h9
              · skip
                rcases Nat.lt_or_ge j 196 with h9 | h9
                · skip
                  have e9 : j = 195 := by omega
                  subst e9
                  exact jmOKx_of jm_195
                · skip
                  rcases Nat.lt_or_ge j 197 with h9 | h9
                  · skip
                    have e9 : j = 196 := by omega
                    subst e9
                    exact jmOKx_of jm_196
                  · skip
                    have e9 : j = 197 := by omega
                    subst e9
                    exact jmOKx_of jm_197
              · skip
                rcases Nat.lt_or_ge j 199 with h9 | h9
                · skip
                  have e9 : j = 198 := by omega
                  subst e9
                  exact jmOKx_of jm_198
                · skip
                  rcases Nat.lt_or_ge j 200 with h9 | h9
                  · skip
                    have e9 : j = 199 := by omega
                    subst e9
                    exact jmOKx_of jm_199
                  · skip
                    have e9 : j = 200 := by omega
                    subst e9
                    exact jmOKx_of jm_200
        · skip
          rcases Nat.lt_or_ge j 212 with h9 | h9
          · skip
            rcases Nat.lt_or_ge j 206 with h9 | h9
            · skip
              rcases Nat.lt_or_ge j 203 with h9 | h9
              · skip
                rcases Nat.lt_or_ge j 202 with h9 | h9
                · skip
                  have e9 : j = 201 := by omega
                  subst e9
                  exact jmOKx_of jm_201
                · skip
                  have e9 : j = 202 := by omega
                  subst e9
                  exact jmOKx_of jm_202
              · skip
                rcases Nat.lt_or_ge j 204 with h9 | h9
                · skip
                  have e9 : j = 203 := by omega
                  subst e9
                  exact jmOKx_of jm_203
                · skip
                  rcases Nat.lt_or_ge j 205 with h9 | h9
                  · skip
                    have e9 : j = 204 := by omega
                    subst e9
                    exact jmOKx_of jm_204
                  · skip
                    have e9 : j = 205 := by omega
                    subst e9
                    exact jmOKx_of jm_205
            · skip
              rcases Nat.lt_or_ge j 209 with h9 | h9
              · skip
                rcases Nat.lt_or_ge j 207 with h9 | h9
                · skip
                  have e9 : j = 206 := by omega
                  subst e9
                  exact jmOKx_of jm_206
                · skip
                  rcases Nat.lt_or_ge j 208 with h9 | h9
                  · skip
                    have e9 : j = 207 := by omega
                    subst e9
                    exact jmOKx_of jm_207
                  · skip
                    have e9 : j = 208 := by omega
                    subst e9
                    exact jmOKx_of jm_208
              · skip
                rcases Nat.lt_or_ge j 210 with h9 | h9
                · skip
                  have e9 : j = 209 := by omega
                  subst e9
                  exact jmOKx_of jm_209
                · skip
                  rcases Nat.lt_or_ge j 211 with h9 | h9
                  · skip
                    have e9 : j = 210 := by omega
                    subst e9
                    exact jmOKx_of jm_210
                  · skip
                    have e9 : j = 211 := by omega
                    subst e9
                    exact jmOKx_of jm_211
          · skip
            rcases Nat.lt_or_ge j 218 with h9 | h9
            · skip
              rcases Nat.lt_or_ge j 215 with h9 | h9
              · skip
                rcases Nat.lt_or_ge j 213 with h9 | h9
                · skip
                  have e9 : j = 212 := by omega
                  subst e9
                  exact jmOKx_of jm_212
                · skip
                  rcases Nat.lt_or_ge j 214 with h9 | h9
                  · skip
                    have e9 : j = 213 := by omega
                    subst e9
                    exact jmOKx_of jm_213
                  · skip
                    have e9 : j = 214 := by omega
                    subst e9
                    exact jmOKx_of jm_214
              · skip
                rcases Nat.lt_or_ge j 216 with h9 | h9
                · skip
                  have e9 : j = 215 := by omega
                  subst e9
                  exact jmOKx_of jm_215
                · skip
                  rcases Nat.lt_or_ge j 217 with h9 | h9
                  · skip
                    have e9 : j = 216 := by omega
                    subst e9
                    exact jmOKx_of jm_216
                  · skip
                    have e9 : j = 217 := by omega
                    subst e9
                    exact jmOKx_of jm_217
            · skip
              rcases Nat.lt_or_ge j 221 with h9 | h9
              · skip
                rcases Nat.lt_or_ge j 219 with h9 | h9
                · skip
                  have e9 : j = 218 := by omega
                  subst e9
                  exact jmOKx_of jm_218
                · skip
                  rcases Nat.lt_or_ge j 220 with h9 | h9
                  · skip
                    have e9 : j = 219 := by omega
                    subst e9
                    exact jmOKx_of jm_219
                  · skip
                    have e9 : j = 220 := by omega
                    subst e9
                    exact jmOKx_of jm_220
              · skip
                rcases Nat.lt_or_ge j 222 with h9 | h9
                · skip
                  have e9 : j = 221 := by omega
                  subst e9
                  exact jmOKx_of jm_221
                · skip
                  rcases Nat.lt_or_ge j 223 with h9 | h9
                  · skip
                    have e9 : j = 222 := by omega
                    subst e9
                    exact jmOKx_of jm_222
                  · skip
                    have e9 : j = 223 := by omega
                    subst e9
                    exact jmOKx_of jm_223
      · skip
        rcases Nat.lt_or_ge j 246 with h9 | h9
        · skip
          rcases Nat.lt_or_ge j 235 with h9 | h9
          · skip
            rcases Nat.lt_or_ge j 229 with h9 | h9
            · skip
              rcases Nat.lt_or_ge j 226 with h9 | h9
              · skip
                rcases Nat.lt_or_ge j 225 with h9 | h9
                · skip
                  have e9 : j = 224 := by omega
                  subst e9
                  exact jmOKx_of jm_224
                · skip
                  have e9 : j = 225 := by omega
                  subst e9
                  exact jmOKx_of jm_225
              · skip
                rcases Nat.lt_or_ge j 227 with h9 | h9
                · skip
                  have e9 : j = 226 := by omega
                  subst e9
                  exact jmOKx_of jm_226
                · skip
                  rcases Nat.lt_or_ge j 228 with h9 | h9
                  · skip
                    have e9 : j = 227 := by omega
                    subst e9
                    exact jmOKx_of jm_227
                  · skip
                    have e9 : j = 228 := by omega
                    subst e9
                    exact jmOKx_of jm_228
            · skip
              rcases Nat.lt_or_ge j 232 with h9 | h9
              · skip
                rcases Nat.lt_or_ge j 230 with h9 | h9
                · skip
                  have e9 : j = 229 := by omega
                  subst e9
                  exact jmOKx_of jm_229
                · skip
                  rcases Nat.lt_or_ge j 231 with h9 | h9
                  · skip
                    have e9 : j = 230 := by omega
                    subst e9
                    exact jmOKx_of jm_230
                  · skip
                    have e9 : j = 231 := by omega
                    subst e9
                    exact jmOKx_of jm_231
              · skip
                rcases Nat.lt_or_ge j 233 with h9 | h9
                · skip
                  have e9 : j = 232 := by omega
                  subst e9
                  exact jmOKx_of jm_232
                · skip
                  rcases Nat.lt_or_ge j 234 with h9 | h9
                  · skip
                    have e9 : j = 233 := by omega
                    subst e9
                    exact jmOKx_of jm_233
                  · skip
                    have e9 : j = 234 := by omega
                    subst e9
                    exact jmOKx_of jm_234
          · skip
            rcases Nat.lt_or_ge j 240 with h9 | h9
            · skip
              rcases Nat.lt_or_ge j 237 with h9 | h9
              · skip
                rcases Nat.lt_or_ge j 236 with h9 | h9
                · skip
                  have e9 : j = 235 := by omega
                  subst e9
                  exact jmOKx_of jm_235
                · skip
                  have e9 : j = 236 := by omega
                  subst e9
                  exact jmOKx_of jm_236
              · skip
                rcases Nat.lt_or_ge j 238 with h9 | h9
                · skip
                  have e9 : j = 237 := by omega
                  subst e9
                  exact jmOKx_of jm_237
                · skip
                  rcases Nat.lt_or_ge j 239 with h9 | h9
                  · skip
                    have e9 : j = 238 := by omega
                    subst e9
                    exact jmOKx_of jm_238
                  · skip
                    have e9 : j = 239 := by omega
                    subst e9
                    exact jmOKx_of jm_239
            · skip
              rcases Nat.lt_or_ge j 243 with h9 | h9
              · skip
                rcases Nat.lt_or_ge j 241 with h9 | h9
                · skip
                  have e9 : j = 240 := by omega
                  subst e9
                  exact jmOKx_of jm_240
                · skip
                  rcases Nat.lt_or_ge j 242 with h9 | h9
                  · skip
                    have e9 : j = 241 := by omega
                    subst e9
                    exact jmOKx_of jm_241
                  · skip
                    have e9 : j = 242 := by omega
                    subst e9
                    exact jmOKx_of jm_242
              · skip
                rcases Nat.lt_or_ge j 244 with h9 | h9
                · skip
                  have e9 : j = 243 := by omega
                  subst e9
                  exact jmOKx_of jm_243
                · skip
                  rcases Nat.lt_or_ge j 245 with h9 | h9
                  · skip
                    have e9 : j = 244 := by omega
                    subst e9
                    exact jmOKx_of jm_244
                  · skip
                    have e9 : j = 245 := by omega
                    subst e9
                    exact jmOKx_of jm_245
        · skip
          rcases Nat.lt_or_ge j 257 with h9 | h9
          · skip
            rcases Nat.lt_or_ge j 251 with h9 | h9
            · skip
              rcases Nat.lt_or_ge j 248 with h9 | h9
              · skip
                rcases Nat.lt_or_ge j 247 with h9 | h9
                · skip
                  have e9 : j = 246 := by omega
                  subst e9
                  exact jmOKx_of jm_246
                · skip
                  have e9 : j = 247 := by omega
                  subst e9
                  exact jmOKx_of jm_247
              · skip
                rcases Nat.lt_or_ge j 249 with h9 | h9
                · skip
                  have e9 : j = 248 := by omega
                  subst e9
                  exact jmOKx_of jm_248
                · skip
                  rcases Nat.lt_or_ge j 250 with h9 | h9
                  · skip
                    have e9 : j = 249 := by omega
                    subst e9
                    exact jmOKx_of jm_249
                  · skip
                    have e9 : j = 250 := by omega
                    subst e9
                    exact jmOKx_of jm_250
            · skip
              rcases Nat.lt_or_ge j 254 with h9 | h9
              · skip
                rcases Nat.lt_or_ge j 252 with h9 | h9
                · skip
                  have e9 : j = 251 := by omega
                  subst e9
                  exact jmOKx_of jm_251
                · skip
                  rcases Nat.lt_or_ge j 253 with h9 | h9
                  · skip
                    have e9 : j = 252 := by omega
                    subst e9
                    exact jmOKx_of jm_252
                  · skip
                    have e9 : j = 253 := by omega
                    subst e9
                    exact jmOKx_of jm_253
              · skip
                rcases Nat.lt_or_ge j 255 with h9 | h9
                · skip
                  have e9 : j = 254 := by omega
                  subst e9
                  exact jmOKx_of jm_254
                · skip
                  rcases Nat.lt_or_ge j 256 with h9 | h9
                  · skip
                    have e9 : j = 255 := by omega
                    subst e9
                    exact jmOKx_of jm_255
                  · skip
                    have e9 : j = 256 := by omega
                    subst e9
                    exact jmOKx_of jm_256
          · skip
            rcases Nat.lt_or_ge j 263 with h9 | h9
            · skip
              rcases Nat.lt_or_ge j 260 with h9 | h9
              · skip
                rcases Nat.lt_or_ge j 258 with h9 | h9
                · skip
                  have e9 : j = 257 := by omega
                  subst e9
                  exact jmOKx_of jm_257
                · skip
                  rcases Nat.lt_or_ge j 259 with h9 | h9
                  · skip
                    have e9 : j = 258 := by omega
                    subst e9
                    exact jmOKx_of jm_258
                  · skip
                    have e9 : j = 259 := by omega
                    subst e9
                    exact jmOKx_of jm_259
              · skip
                rcases Nat.lt_or_ge j 261 with h9 | h9
                · skip
                  have e9 : j = 260 := by omega
                  subst e9
                  exact jmOKx_of jm_260
                · skip
                  rcases Nat.lt_or_ge j 262 with h9 | h9
                  · skip
                    have e9 : j = 261 := by omega
                    subst e9
                    exact jmOKx_of jm_261
                  · skip
                    have e9 : j = 262 := by omega
                    subst e9
                    exact jmOKx_of jm_262
            · skip
              rcases Nat.lt_or_ge j 266 with h9 | h9
              · skip
                rcases Nat.lt_or_ge j 264 with h9 | h9
                · skip
                  have e9 : j = 263 := by omega
                  subst e9
                  exact jmOKx_of jm_263
                · skip
                  rcases Nat.lt_or_ge j 265 with h9 | h9
                  · skip
                    have e9 : j = 264 := by omega
                    subst e9
                    exact jmOKx_of jm_264
                  · skip
                    have e9 : j = 265 := by omega
                    subst e9
                    exact jmOKx_of jm_265
              · skip
                rcases Nat.lt_or_ge j 267 with h9 | h9
                · skip
                  have e9 : j = 266 := by omega
                  subst e9
                  exact jmOKx_of jm_266
                · skip
                  rcases Nat.lt_or_ge j 268 with h9 | h9
                  · skip
                    have e9 : j = 267 := by omega
                    subst e9
                    exact jmOKx_of jm_267
                  · skip
                    have e9 : j = 268 := by omega
                    subst e9
                    exact jmOKx_of jm_268
    · skip
      rcases Nat.lt_or_ge j 314 with h9 | h9
      · skip
        rcases Nat.lt_or_ge j 291 with h9 | h9
        · skip
          rcases Nat.lt_or_ge j 280 with h9 | h9
          · skip
            rcases Nat.lt_or_ge j 274 with h9 | h9
            · skip
              rcases Nat.lt_or_ge j 271 with h9 | h9
              · skip
                rcases Nat.lt_or_ge j 270 with h9 | h9
                · skip
                  have e9 : j = 269 := by omega
                  subst e9
                  exact jmOKx_of jm_269
                · skip
                  have e9 : j = 270 := by omega
                  subst e9
                  exact jmOKx_of jm_270
              · skip
                rcases Nat.lt_or_ge j 272 with h9 | h9
                · skip
                  have e9 : j = 271 := by omega
                  subst e9
                  exact jmOKx_of jm_271
                · skip
                  rcases Nat.lt_or_ge j 273 with h9 | h9
                  · skip
                    have e9 : j = 272 := by omega
                    subst e9
                    exact jmOKx_of jm_272
                  · skip
                    have e9 : j = 273 := by omega
                    subst e9
                    exact jmOKx_of jm_273
            · skip
              rcases Nat.lt_or_ge j 277 with h9 | h9
              · skip
                rcases Nat.lt_or_ge j 275 with h9 | h9
                · skip
                  have e9 : j = 274 := by omega
                  subst e9
                  exact jmOKx_of jm_274
                · skip
                  rcases Nat.lt_or_ge j 276 with h9 | h9
                  · skip
                    have e9 : j = 275 := by omega
                    subst e9
                    exact jmOKx_of jm_275
                  · skip
                    have e9 : j = 276 := by omega
                    subst e9
                    exact jmOKx_of jm_276
              · skip
                rcases Nat.lt_or_ge j 278 with h9 | h9
                · skip
                  have e9 : j = 277 := by omega
                  subst e9
                  exact jmOKx_of jm_277
                · skip
                  rcases Nat.lt_or_ge j 279 with h9 | h9
                  · skip
                    have e9 : j = 278 := by omega
                    subst e9
                    exact jmOKx_of jm_278
                  · skip
                    have e9 : j = 279 := by omega
                    subst e9
                    exact jmOKx_of jm_279
          · skip
            rcases Nat.lt_or_ge j 285 with h9 | h9
            · skip
              rcases Nat.lt_or_ge j 282 with h9 | h9
              · skip
                rcases Nat.lt_or_ge j 281 with h9 | h9
                · skip
                  have e9 : j = 280 := by omega
                  subst e9
                  exact jmOKx_of jm_280
                · skip
                  have e9 : j = 281 := by omega
                  subst e9
                  exact jmOKx_of jm_281
              · skip
                rcases Nat.lt_or_ge j 283 with h9 | h9
                · skip
                  have e9 : j = 282 := by omega
                  subst e9
                  exact jmOKx_of jm_282
                · skip
                  rcases Nat.lt_or_ge j 284 with h9 | h9
                  · skip
                    have e9 : j = 283 := by omega
                    subst e9
                    exact jmOKx_of jm_283
                  · skip
                    have e9 : j = 284 := by omega
                    subst e9
                    exact jmOKx_of jm_284
            · skip
              rcases Nat.lt_or_ge j 288 with h9 | h9
              · skip
                rcases Nat.lt_or_ge j 286 with h9 | h9
                · skip
                  have e9 : j = 285 := by omega
                  subst e9
                  exact jmOKx_of jm_285
                · skip
                  rcases Nat.lt_or_ge j 287 with h9 | h9
                  · skip
                    have e9 : j = 286 := by omega
                    subst e9
                    exact jmOKx_of jm_286
                  · skip
                    have e9 : j = 287 := by omega
                    subst e9
                    exact jmOKx_of jm_287
              · skip
                rcases Nat.lt_or_ge j 289 with h9 | h9
                · skip
                  have e9 : j = 288 := by omega
                  subst e9
                  exact jmOKx_of jm_288
                · skip
                  rcases Nat.lt_or_ge j 290 with h9 | h9
                  · skip
                    have e9 : j = 289 := by omega
                    subst e9
                    exact jmOKx_of jm_289
                  · skip
                    have e9 : j = 290 := by omega
                    subst e9
                    exact jmOKx_of jm_290
        · skip
          rcases Nat.lt_or_ge j 302 with h9 | h9
          · skip
            rcases Nat.lt_or_ge j 296 with h9 | h9
            · skip
              rcases Nat.lt_or_ge j 293 with h9 | h9
              · skip
                rcases Nat.lt_or_ge j 292 with h9 | h9
                · skip
                  have e9 : j = 291 := by omega
                  subst e9
                  exact jmOKx_of jm_291
                · skip
                  have e9 : j = 292 := by omega
                  subst e9
                  exact jmOKx_of jm_292
              · skip
                rcases Nat.lt_or_ge j 294 with h9 | h9
                · skip
                  have e9 : j = 293 := by omega
                  subst e9
                  exact jmOKx_of jm_293
                · skip
                  rcases Nat.lt_or_ge j 295 with h9 | h9
                  · skip
                    have e9 : j = 294 := by omega
                    subst e9
                    exact jmOKx_of jm_294
                  · skip
                    have e9 : j = 295 := by omega
                    subst e9
                    exact jmOKx_of jm_295
            · skip
              rcases Nat.lt_or_ge j 299 with h9 | h9
              · skip
                rcases Nat.lt_or_ge j 297 with h9 | h9
                · skip
                  have e9 : j = 296 := by omega
                  subst e9
                  exact jmOKx_of jm_296
                · skip
                  rcases Nat.lt_or_ge j 298 with h9 | h9
                  · skip
                    have e9 : j = 297 := by omega
                    subst e9
                    exact jmOKx_of jm_297
                  · skip
                    have e9 : j = 298 := by omega
                    subst e9
                    exact jmOKx_of jm_298
              · skip
                rcases Nat.lt_or_ge j 300 with h9 | h9
                · skip
                  have e9 : j = 299 := by omega
                  subst e9
                  exact jmOKx_of jm_299
                · skip
                  rcases Nat.lt_or_ge j 301 with h9 | h9
                  · skip
                    have e9 : j = 300 := by omega
                    subst e9
                    exact jmOKx_of jm_300
                  · skip
                    have e9 : j = 301 := by omega
                    subst e9
                    exact jmOKx_of jm_301
          · skip
            rcases Nat.lt_or_ge j 308 with h9 | h9
            · skip
              rcases Nat.lt_or_ge j 305 with h9 | h9
              · skip
                rcases Nat.lt_or_ge j 303 with h9 | h9
                · skip
                  have e9 : j = 302 := by omega
                  subst e9
                  exact jmOKx_of jm_302
                · skip
                  rcases Nat.lt_or_ge j 304 with h9 | h9
                  · skip
                    have e9 : j = 303 := by omega
                    subst e9
                    exact jmOKx_of jm_303
                  · skip
                    have e9 : j = 304 := by omega
                    subst e9
                    exact jmOKx_of jm_304
              · skip
                rcases Nat.lt_or_ge j 306 with h9 | h9
                · skip
                  have e9 : j = 305 := by omega
                  subst e9
                  exact jmOKx_of jm_305
                · skip
                  rcases Nat.lt_or_ge j 307 with h9 | h9
                  · skip
                    have e9 : j = 306 := by omega
                    subst e9
                    exact jmOKx_of jm_306
                  · skip
                    have e9 : j = 307 := by omega
                    subst e9
                    exact jmOKx_of jm_307
            · skip
              rcases Nat.lt_or_ge j 311 with h9 | h9
              · skip
                rcases Nat.lt_or_ge j 309 with h9 | h9
                · skip
                  have e9 : j = 308 := by omega
                  subst e9
                  exact jmOKx_of jm_308
                · skip
                  rcases Nat.lt_or_ge j 310 with h9 | h9
                  · skip
                    have e9 : j = 309 := by omega
                    subst e9
                    exact jmOKx_of jm_309
                  · skip
                    have e9 : j = 310 := by omega
                    subst e9
                    exact jmOKx_of jm_310
              · skip
                rcases Nat.lt_or_ge j 312 with h9 | h9
                · skip
                  have e9 : j = 311 := by omega
                  subst e9
                  exact jmOKx_of jm_311
                · skip
                  rcases Nat.lt_or_ge j 313 with h9 | h9
                  · skip
                    have e9 : j = 312 := by omega
                    subst e9
                    exact jmOKx_of jm_312
                  · skip
                    have e9 : j = 313 := by omega
                    subst e9
                    exact jmOKx_of jm_313
      · skip
        rcases Nat.lt_or_ge j 336 with h9 | h9
        · skip
          rcases Nat.lt_or_ge j 325 with h9 | h9
          · skip
            rcases Nat.lt_or_ge j 319 with h9 | h9
            · skip
              rcases Nat.lt_or_ge j 316 with h9 | h9
              · skip
                rcases Nat.lt_or_ge j 315 with h9 | h9
                · skip
                  have e9 : j = 314 := by omega
                  subst e9
                  exact jmOKx_of jm_314
                · skip
                  have e9 : j = 315 := by omega
                  subst e9
                  exact jmOKx_of jm_315
              · skip
                rcases Nat.lt_or_ge j 317 with h9 | h9
                · skip
                  have e9 : j = 316 := by omega
                  subst e9
                  exact jmOKx_of jm_316
                · skip
                  rcases Nat.lt_or_ge j 318 with h9 | h9
                  · skip
                    have e9 : j = 317 := by omega
                    subst e9
                    exact jmOKx_of jm_317
                  · skip
                    have e9 : j = 318 := by omega
                    subst e9
                    exact jmOKx_of jm_318
            · skip
              rcases Nat.lt_or_ge j 322 with h9 | h9
              · skip
                rcases Nat.lt_or_ge j 320 with h9 | h9
                · skip
                  have e9 : j = 319 := by omega
                  subst e9
                  exact jmOKx_of jm_319
                · skip
                  rcases Nat.lt_or_ge j 321 with h9 | h9
                  · skip
                    have e9 : j = 320 := by omega
                    subst e9
                    exact jmOKx_of jm_320
                  · skip
                    have e9 : j = 321 := by omega
                    subst e9
                    exact jmOKx_of jm_321
              · skip
                rcases Nat.lt_or_ge j 323 with h9 | h9
                · skip
                  have e9 : j = 322 := by omega
                  subst e9
                  exact jmOKx_of jm_322
                · skip
                  rcases Nat.lt_or_ge j 324 with h9 | h9
                  · skip
                    have e9 : j = 323 := by omega
                    subst e9
                    exact jmOKx_of jm_323
                  · skip
                    have e9 : j = 324 := by omega
                    subst e9
                    exact jmOKx_of jm_324
          · skip
            rcases Nat.lt_or_ge j 330 with h9 | h9
            · skip
              rcases Nat.lt_or_ge j 327 with h9 | h9
              · skip
                rcases Nat.lt_or_ge j 326 with h9 | h9
                · skip
                  have e9 : j = 325 := by omega
                  subst e9
                  exact jmOKx_of jm_325
                · skip
                  have e9 : j = 326 := by omega
                  subst e9
                  exact jmOKx_of jm_326
              · skip
                rcases Nat.lt_or_ge j 328 with h9 | h9
                · skip
                  have e9 : j = 327 := by omega
                  subst e9
                  exact jmOKx_of jm_327
                · skip
                  rcases Nat.lt_or_ge j 329 with h9 | h9
                  · skip
                    have e9 : j = 328 := by omega
                    subst e9
                    exact jmOKx_of jm_328
                  · skip
                    have e9 : j = 329 := by omega
                    subst e9
                    exact jmOKx_of jm_329
            · skip
              rcases Nat.lt_or_ge j 333 with h9 | h9
              · skip
                rcases Nat.lt_or_ge j 331 with h9 | h9
                · skip
                  have e9 : j = 330 := by omega
                  subst e9
                  exact jmOKx_of jm_330
                · skip
                  rcases Nat.lt_or_ge j 332 with h9 | h9
                  · skip
                    have e9 : j = 331 := by omega
                    subst e9
                    exact jmOKx_of jm_331
                  · skip
                    have e9 : j = 332 := by omega
                    subst e9
                    exact jmOKx_of jm_332
              · skip
                rcases Nat.lt_or_ge j 334 with h9 | h9
                · skip
                  have e9 : j = 333 := by omega
                  subst e9
                  exact jmOKx_of jm_333
                · skip
                  rcases Nat.lt_or_ge j 335 with h9 | h9
                  · skip
                    have e9 : j = 334 := by omega
                    subst e9
                    exact jmOKx_of jm_334
                  · skip
                    have e9 : j = 335 := by omega
                    subst e9
                    exact jmOKx_of jm_335
        · skip
          rcases Nat.lt_or_ge j 347 with h9 | h9
          · skip
            rcases Nat.lt_or_ge j 341 with h9 | h9
            · skip
              rcases Nat.lt_or_ge j 338 with h9 | h9
              · skip
                rcases Nat.lt_or_ge j 337 with h9 | h9
                · skip
                  have e9 : j = 336 := by omega
                  subst e9
                  exact jmOKx_of jm_336
                · skip
                  have e9 : j = 337 := by omega
                  subst e9
                  exact jmOKx_of jm_337
              · skip
                rcases Nat.lt_or_ge j 339 with h9 | h9
                · skip
                  have e9 : j = 338 := by omega
                  subst e9
                  exact jmOKx_of jm_338
                · skip
                  rcases Nat.lt_or_ge j 340 with h9 | h9
                  · skip
                    have e9 : j = 339 := by omega
                    subst e9
                    exact jmOKx_of jm_339
                  · skip
                    have e9 : j = 340 := by omega
                    subst e9
                    exact jmOKx_of jm_340
            · skip
              rcases Nat.lt_or_ge j 344 with h9 | h9
              · skip
                rcases Nat.lt_or_ge j 342 with h9 | h9
                · skip
                  have e9 : j = 341 := by omega
                  subst e9
                  exact jmOKx_of jm_341
                · skip
                  rcases Nat.lt_or_ge j 343 with h9 | h9
                  · skip
                    have e9 : j = 342 := by omega
                    subst e9
                    exact jmOKx_of jm_342
                  · skip
                    have e9 : j = 343 := by omega
                    subst e9
                    exact jmOKx_of jm_343
              · skip
                rcases Nat.lt_or_ge j 345 with h9 | h9
                · skip
                  have e9 : j = 344 := by omega
                  subst e9
                  exact jmOKx_of jm_344
                · skip
                  rcases Nat.lt_or_ge j 346 with h9 | h9
                  · skip
                    have e9 : j = 345 := by omega
                    subst e9
                    exact jmOKx_of jm_345
                  · skip
                    have e9 : j = 346 := by omega
                    subst e9
                    exact jmOKx_of jm_346
          · skip
            rcases Nat.lt_or_ge j 353 with h9 | h9
            · skip
              rcases Nat.lt_or_ge j 350 with h9 | h9
              · skip
                rcases Nat.lt_or_ge j 348 with h9 | h9
                · skip
                  have e9 : j = 347 := by omega
                  subst e9
                  exact jmOKx_of jm_347
                · skip
                  rcases Nat.lt_or_ge j 349 with h9 | h9
                  · skip
                    have e9 : j = 348 := by omega
                    subst e9
                    exact jmOKx_of jm_348
                  · skip
                    have e9 : j = 349 := by omega
                    subst e9
                    exact jmOKx_of jm_349
              · skip
                rcases Nat.lt_or_ge j 351 with h9 | h9
                · skip
                  have e9 : j = 350 := by omega
                  subst e9
                  exact jmOKx_of jm_350
                · skip
                  rcases Nat.lt_or_ge j 352 with h9 | h9
                  · skip
                    have e9 : j = 351 := by omega
                    subst e9
                    exact jmOKx_of jm_351
                  · skip
                    have e9 : j = 352 := by omega
                    subst e9
                    exact jmOKx_of jm_352
            · skip
              rcases Nat.lt_or_ge j 356 with h9 | h9
              · skip
                rcases Nat.lt_or_ge j 354 with h9 | h9
                · skip
                  have e9 : j = 353 := by omega
                  subst e9
                  exact jmOKx_of jm_353
                · skip
                  rcases Nat.lt_or_ge j 355 with h9 | h9
                  · skip
                    have e9 : j = 354 := by omega
                    subst e9
                    exact jmOKx_of jm_354
                  · skip
                    have e9 : j = 355 := by omega
                    subst e9
                    exact jmOKx_of jm_355
              · skip
                rcases Nat.lt_or_ge j 357 with h9 | h9
                · skip
                  have e9 : j = 356 := by omega
                  subst e9
                  exact jmx_356
                · skip
                  rcases Nat.lt_or_ge j 358 with h9 | h9
                  · skip
                    have e9 : j = 357 := by omega
                    subst e9
                    exact jmx_357
                  · skip
                    have e9 : j = 358 := by omega
                    subst e9
                    exact jmx_358
theorem jmc_lt {j : Nat} (h : j < 359) : .code (jY j) (jC j) (jM j) (jR j) ∈ jTb := by
  rcases Nat.lt_or_ge j 179 with h9 | h9
  · skip
    rcases Nat.lt_or_ge j 89 with h9 | h9
    · skip
      rcases Nat.lt_or_ge j 44 with h9 | h9
      · skip
        rcases Nat.lt_or_ge j 22 with h9 | h9
        · skip
          rcases Nat.lt_or_ge j 11 with h9 | h9
          · skip
            rcases Nat.lt_or_ge j 5 with h9 | h9
            · skip
              rcases Nat.lt_or_ge j 2 with h9 | h9
              · skip
                rcases Nat.lt_or_ge j 1 with h9 | h9
                · skip
                  have e9 : j = 0 := by omega
                  subst e9
                  exact List.mem_filter.mpr ⟨List.mem_of_getElem? jmc_0, rfl⟩
                · skip
                  have e9 : j = 1 := by omega
                  subst e9
                  exact List.mem_filter.mpr ⟨List.mem_of_getElem? jmc_1, rfl⟩
              · skip
                rcases Nat.lt_or_ge j 3 with h9 | h9
                · skip
                  have e9 : j = 2 := by omega
                  subst e9
                  exact List.mem_filter.mpr ⟨List.mem_of_getElem? jmc_2, rfl⟩
                · skip
                  rcases Nat.lt_or_ge j 4 with h9 | h9
                  · skip
                    have e9 : j = 3 := by omega
                    subst e9
                    exact List.mem_filter.mpr ⟨List.mem_of_getElem? jmc_3, rfl⟩
                  · skip
                    have e9 : j = 4 := by omega
                    subst e9
                    exact List.mem_filter.mpr ⟨List.mem_of_getElem? jmc_4, rfl⟩
            · skip
              rcases Nat.lt_or_ge j 8 with h9 | h9
              · skip
                rcases Nat.lt_or_ge j 6 with h9 | h9
                · skip
                  have e9 : j = 5 := by omega
                  subst e9
                  exact List.mem_filter.mpr ⟨List.mem_of_getElem? jmc_5, rfl⟩
                · skip
                  rcases Nat.lt_or_ge j 7 with h9 | h9
                  · skip
                    have e9 : j = 6 := by omega
                    subst e9
                    exact List.mem_filter.mpr ⟨List.mem_of_getElem? jmc_6, rfl⟩
                  · skip
                    have e9 : j = 7 := by omega
                    subst e9
                    exact List.mem_filter.mpr ⟨List.mem_of_getElem? jmc_7, rfl⟩
              · skip
                rcases Nat.lt_or_ge j 9 with h9 | h9
                · skip
                  have e9 : j = 8 := by omega
                  subst e9
                  exact List.mem_filter.mpr ⟨List.mem_of_getElem? jmc_8, rfl⟩
                · skip
                  rcases Nat.lt_or_ge j 10 with h9 | h9
                  · skip
                    have e9 : j = 9 := by omega
                    subst e9
                    exact List.mem_filter.mpr ⟨List.mem_of_getElem? jmc_9, rfl⟩
                  · skip
                    have e9 : j = 10 := by omega
                    subst e9
                    exact List.mem_filter.mpr ⟨List.mem_of_getElem? jmc_10, rfl⟩
          · skip
            rcases Nat.lt_or_ge j 16 with h9 | h9
            · skip
              rcases Nat.lt_or_ge j 13 with h9 | h9
              · skip
                rcases Nat.lt_or_ge j 12 with h9 | h9
                · skip
                  have e9 : j = 11 := by omega
                  subst e9
                  exact List.mem_filter.mpr ⟨List.mem_of_getElem? jmc_11, rfl⟩
                · skip
                  have e9 : j = 12 := by omega
                  subst e9
                  exact List.mem_filter.mpr ⟨List.mem_of_getElem? jmc_12, rfl⟩
              · skip
                rcases Nat.lt_or_ge j 14 with h9 | h9
                · skip
                  have e9 : j = 13 := by omega
                  subst e9
                  exact List.mem_filter.mpr ⟨List.mem_of_getElem? jmc_13, rfl⟩
                · skip
                  rcases Nat.lt_or_ge j 15 with h9 | h9
                  · skip
                    have e9 : j = 14 := by omega
                    subst e9
                    exact List.mem_filter.mpr ⟨List.mem_of_getElem? jmc_14, rfl⟩
                  · skip
                    have e9 : j = 15 := by omega
                    subst e9
                    exact List.mem_filter.mpr ⟨List.mem_of_getElem? jmc_15, rfl⟩
            · skip
              rcases Nat.lt_or_ge j 19 with h9 | h9
              · skip
                rcases Nat.lt_or_ge j 17 with h9 | h9
                · skip
                  have e9 : j = 16 := by omega
                  subst e9
                  exact List.mem_filter.mpr ⟨List.mem_of_getElem? jmc_16, rfl⟩
                · skip
                  rcases Nat.lt_or_ge j 18 with h9 | h9
                  · skip
                    have e9 : j = 17 := by omega
                    subst e9
                    exact List.mem_filter.mpr ⟨List.mem_of_getElem? jmc_17, rfl⟩
                  · skip
                    have e9 : j = 18 := by omega
                    subst e9
                    exact List.mem_filter.mpr ⟨List.mem_of_getElem? jmc_18, rfl⟩
              · skip
                rcases Nat.lt_or_ge j 20 with h9 | h9
                · skip
                  have e9 : j = 19 := by omega
                  subst e9
                  exact List.mem_filter.mpr ⟨List.mem_of_getElem? jmc_19, rfl⟩
                · skip
                  rcases Nat.lt_or_ge j 21 with h9 | h9
                  · skip
                    have e9 : j = 20 := by omega
                    subst e9
                    exact List.mem_filter.mpr ⟨List.mem_of_getElem? jmc_20, rfl⟩
                  · skip
                    have e9 : j = 21 := by omega
                    subst e9
                    exact List.mem_filter.mpr ⟨List.mem_of_getElem? jmc_21, rfl⟩
        · skip
          rcases Nat.lt_or_ge j 33 with h9 | h9
          · skip
            rcases Nat.lt_or_ge j 27 with h9 | h9
            · skip
              rcases Nat.lt_or_ge j 24 with h9 | h9
              · skip
                rcases Nat.lt_or_ge j 23 with h9 | h9
                · skip
                  have e9 : j = 22 := by omega
                  subst e9
                  exact List.mem_filter.mpr ⟨List.mem_of_getElem? jmc_22, rfl⟩
                · skip
                  have e9 : j = 23 := by omega
                  subst e9
                  exact List.mem_filter.mpr ⟨List.mem_of_getElem? jmc_23, rfl⟩
              · skip
                rcases Nat.lt_or_ge j 25 with h9 | h9
                · skip
                  have e9 : j = 24 := by omega
                  subst e9
                  exact List.mem_filter.mpr ⟨List.mem_of_getElem? jmc_24, rfl⟩
                · skip
                  rcases Nat.lt_or_ge j 26 with h9 | h9
                  · skip
                    have e9 : j = 25 := by omega
                    subst e9
                    exact List.mem_filter.mpr ⟨List.mem_of_getElem? jmc_25, rfl⟩
                  · skip
                    have e9 : j = 26 := by omega
                    subst e9
                    exact List.mem_filter.mpr ⟨List.mem_of_getElem? jmc_26, rfl⟩
            · skip
              rcases Nat.lt_or_ge j 30 with h9 | h9
              · skip
                rcases Nat.lt_or_ge j 28 with h9 | h9
                · skip
                  have e9 : j = 27 := by omega
                  subst e9
                  exact List.mem_filter.mpr ⟨List.mem_of_getElem? jmc_27, rfl⟩
                · skip
                  rcases Nat.lt_or_ge j 29 with h9 | h9
                  · skip
                    have e9 : j = 28 := by omega
                    subst e9
                    exact List.mem_filter.mpr ⟨List.mem_of_getElem? jmc_28, rfl⟩
                  · skip
                    have e9 : j = 29 := by omega
                    subst e9
                    exact List.mem_filter.mpr ⟨List.mem_of_getElem? jmc_29, rfl⟩
              · skip
                rcases Nat.lt_or_ge j 31 with h9 | h9
                · skip
                  have e9 : j = 30 := by omega
                  subst e9
                  exact List.mem_filter.mpr ⟨List.mem_of_getElem? jmc_30, rfl⟩
                · skip
                  rcases Nat.lt_or_ge j 32 with h9 | h9
                  · skip
                    have e9 : j = 31 := by omega
                    subst e9
                    exact List.mem_filter.mpr ⟨List.mem_of_getElem? jmc_31, rfl⟩
                  · skip
                    have e9 : j = 32 := by omega
                    subst e9
                    exact List.mem_filter.mpr ⟨List.mem_of_getElem? jmc_32, rfl⟩
          · skip
            rcases Nat.lt_or_ge j 38 with h9 | h9
            · skip
              rcases Nat.lt_or_ge j 35 with h9 | h9
              · skip
                rcases Nat.lt_or_ge j 34 with h9 | h9
                · skip
                  have e9 : j = 33 := by omega
                  subst e9
                  exact List.mem_filter.mpr ⟨List.mem_of_getElem? jmc_33, rfl⟩
                · skip
                  have e9 : j = 34 := by omega
                  subst e9
                  exact List.mem_filter.mpr ⟨List.mem_of_getElem? jmc_34, rfl⟩
              · skip
                rcases Nat.lt_or_ge j 36 with h9 | h9
                · skip
                  have e9 : j = 35 := by omega
                  subst e9
                  exact List.mem_filter.mpr ⟨List.mem_of_getElem? jmc_35, rfl⟩
                · skip
                  rcases Nat.lt_or_ge j 37 with h9 | h9
                  · skip
                    have e9 : j = 36 := by omega
                    subst e9
                    exact List.mem_filter.mpr ⟨List.mem_of_getElem? jmc_36, rfl⟩
                  · skip
                    have e9 : j = 37 := by omega
                    subst e9
                    exact List.mem_filter.mpr ⟨List.mem_of_getElem? jmc_37, rfl⟩
            · skip
              rcases Nat.lt_or_ge j 41 with h9 | h9
              · skip
                rcases Nat.lt_or_ge j 39 with h9 | h9
                · skip
                  have e9 : j = 38 := by omega
                  subst e9
                  exact List.mem_filter.mpr ⟨List.mem_of_getElem? jmc_38, rfl⟩
                · skip
                  rcases Nat.lt_or_ge j 40 with h9 | h9
                  · skip
                    have e9 : j = 39 := by omega
                    subst e9
                    exact List.mem_filter.mpr ⟨List.mem_of_getElem? jmc_39, rfl⟩
                  · skip
                    have e9 : j = 40 := by omega
                    subst e9
                    exact List.mem_filter.mpr ⟨List.mem_of_getElem? jmc_40, rfl⟩
              · skip
                rcases Nat.lt_or_ge j 42 with h9 | h9
                · skip
                  have e9 : j = 41 := by omega
                  subst e9
                  exact List.mem_filter.mpr ⟨List.mem_of_getElem? jmc_41, rfl⟩
                · skip
                  rcases Nat.lt_or_ge j 43 with h9 | h9
                  · skip
                    have e9 : j = 42 := by omega
                    subst e9
                    exact List.mem_filter.mpr ⟨List.mem_of_getElem? jmc_42, rfl⟩
                  · skip
                    have e9 : j = 43 := by omega
                    subst e9
                    exact List.mem_filter.mpr ⟨List.mem_of_getElem? jmc_43, rfl⟩
      · skip
        rcases Nat.lt_or_ge j 66 with h9 | h9
        · skip
          rcases Nat.lt_or_ge j 55 with h9 | h9
          · skip
            rcases Nat.lt_or_ge j 49 with h9 | h9
            · skip
              rcases Nat.lt_or_ge j 46 with h9 | h9
              · skip
                rcases Nat.lt_or_ge j 45 with h9 | h9
                · skip
                  have e9 : j = 44 := by omega
                  subst e9
                  exact List.mem_filter.mpr ⟨List.mem_of_getElem? jmc_44, rfl⟩
                · skip
                  have e9 : j = 45 := by omega
                  subst e9
                  exact List.mem_filter.mpr ⟨List.mem_of_getElem? jmc_45, rfl⟩
              · skip
                rcases Nat.lt_or_ge j 47 with h9 | h9
                · skip
                  have e9 : j = 46 := by omega
                  subst e9
                  exact List.mem_filter.mpr ⟨List.mem_of_getElem? jmc_46, rfl⟩
                · skip
                  rcases Nat.lt_or_ge j 48 with h9 | h9
                  · skip
                    have e9 : j = 47 := by omega
                    subst e9
                    exact List.mem_filter.mpr ⟨List.mem_of_getElem? jmc_47, rfl⟩
                  · skip
                    have e9 : j = 48 := by omega
                    subst e9
                    exact List.mem_filter.mpr ⟨List.mem_of_getElem? jmc_48, rfl⟩
            · skip
              rcases Nat.lt_or_ge j 52 with h9 | h9
              · skip
                rcases Nat.lt_or_ge j 50 with h9 | h9
                · skip
                  have e9 : j = 49 := by omega
                  subst e9
                  exact List.mem_filter.mpr ⟨List.mem_of_getElem? jmc_49, rfl⟩
                · skip
                  rcases Nat.lt_or_ge j 51 with h9 | h9
                  · skip
                    have e9 : j = 50 := by omega
                    subst e9
                    exact List.mem_filter.mpr ⟨List.mem_of_getElem? jmc_50, rfl⟩
                  · skip
                    have e9 : j = 51 := by omega
                    subst e9
                    exact List.mem_filter.mpr ⟨List.mem_of_getElem? jmc_51, rfl⟩
              · skip
                rcases Nat.lt_or_ge j 53 with h9 | h9
                · skip
                  have e9 : j = 52 := by omega
                  subst e9
                  exact List.mem_filter.mpr ⟨List.mem_of_getElem? jmc_52, rfl⟩
                · skip
                  rcases Nat.lt_or_ge j 54 with h9 | h9
                  · skip
                    have e9 : j = 53 := by omega
                    subst e9
                    exact List.mem_filter.mpr ⟨List.mem_of_getElem? jmc_53, rfl⟩
                  · skip
                    have e9 : j = 54 := by omega
                    subst e9
                    exact List.mem_filter.mpr ⟨List.mem_of_getElem? jmc_54, rfl⟩
          · skip
            rcases Nat.lt_or_ge j 60 with h9 | h9
            · skip
              rcases Nat.lt_or_ge j 57 with h9 | h9
              · skip
                rcases Nat.lt_or_ge j 56 with h9 | h9
                · skip
                  have e9 : j = 55 := by omega
                  subst e9
                  exact List.mem_filter.mpr ⟨List.mem_of_getElem? jmc_55, rfl⟩
                · skip
                  have e9 : j = 56 := by omega
                  subst e9
                  exact List.mem_filter.mpr ⟨List.mem_of_getElem? jmc_56, rfl⟩
              · skip
                rcases Nat.lt_or_ge j 58 with h9 | h9
                · skip
                  have e9 : j = 57 := by omega
                  subst e9
                  exact List.mem_filter.mpr ⟨List.mem_of_getElem? jmc_57, rfl⟩
                · skip
                  rcases Nat.lt_or_ge j 59 with h9 | h9
                  · skip
                    have e9 : j = 58 := by omega
                    subst e9
                    exact List.mem_filter.mpr ⟨List.mem_of_getElem? jmc_58, rfl⟩
                  · skip
                    have e9 : j = 59 := by omega
                    subst e9
                    exact List.mem_filter.mpr ⟨List.mem_of_getElem? jmc_59, rfl⟩
            · skip
              rcases Nat.lt_or_ge j 63 with h9 | h9
              · skip
                rcases Nat.lt_or_ge j 61 with h9 | h9
                · skip
                  have e9 : j = 60 := by omega
                  subst e9
                  exact List.mem_filter.mpr ⟨List.mem_of_getElem? jmc_60, rfl⟩
                · skip
                  rcases Nat.lt_or_ge j 62 with h9 | h9
                  · skip
                    have e9 : j = 61 := by omega
                    subst e9
                    exact List.mem_filter.mpr ⟨List.mem_of_getElem? jmc_61, rfl⟩
                  · skip
                    have e9 : j = 62 := by omega
                    subst e9
                    exact List.mem_filter.mpr ⟨List.mem_of_getElem? jmc_62, rfl⟩
              · skip
                rcases Nat.lt_or_ge j 64 with h9 | h9
                · skip
                  have e9 : j = 63 := by omega
                  subst e9
                  exact List.mem_filter.mpr ⟨List.mem_of_getElem? jmc_63, rfl⟩
                · skip
                  rcases Nat.lt_or_ge j 65 with h9 | h9
                  · skip
                    have e9 : j = 64 := by omega
                    subst e9
                    exact List.mem_filter.mpr ⟨List.mem_of_getElem? jmc_64, rfl⟩
                  · skip
                    have e9 : j = 65 := by omega
                    subst e9
                    exact List.mem_filter.mpr ⟨List.mem_of_getElem? jmc_65, rfl⟩
        · skip
          rcases Nat.lt_or_ge j 77 with h9 | h9
          · skip
            rcases Nat.lt_or_ge j 71 with h9 | h9
            · skip
              rcases Nat.lt_or_ge j 68 with h9 | h9
              · skip
                rcases Nat.lt_or_ge j 67 with h9 | h9
                · skip
                  have e9 : j = 66 := by omega
                  subst e9
                  exact List.mem_filter.mpr ⟨List.mem_of_getElem? jmc_66, rfl⟩
                · skip
                  have e9 : j = 67 := by omega
                  subst e9
                  exact List.mem_filter.mpr ⟨List.mem_of_getElem? jmc_67, rfl⟩
              · skip
                rcases Nat.lt_or_ge j 69 with h9 | h9
                · skip
                  have e9 : j = 68 := by omega
                  subst e9
                  exact List.mem_filter.mpr ⟨List.mem_of_getElem? jmc_68, rfl⟩
                · skip
                  rcases Nat.lt_or_ge j 70 with h9 | h9
                  · skip
                    have e9 : j = 69 := by omega
                    subst e9
                    exact List.mem_filter.mpr ⟨List.mem_of_getElem? jmc_69, rfl⟩
                  · skip
                    have e9 : j = 70 := by omega
                    subst e9
                    exact List.mem_filter.mpr ⟨List.mem_of_getElem? jmc_70, rfl⟩
            · skip
              rcases Nat.lt_or_ge j 74 with h9 | h9
              · skip
                rcases Nat.lt_or_ge j 72 with h9 | h9
                · skip
                  have e9 : j = 71 := by omega
                  subst e9
                  exact List.mem_filter.mpr ⟨List.mem_of_getElem? jmc_71, rfl⟩
                · skip
                  rcases Nat.lt_or_ge j 73 with h9 | h9
                  · skip
                    have e9 : j = 72 := by omega
                    subst e9
                    exact List.mem_filter.mpr ⟨List.mem_of_getElem? jmc_72, rfl⟩
                  · skip
                    have e9 : j = 73 := by omega
                    subst e9
                    exact List.mem_filter.mpr ⟨List.mem_of_getElem? jmc_73, rfl⟩
              · skip
                rcases Nat.lt_or_ge j 75 with h9 | h9
                · skip
                  have e9 : j = 74 := by omega
                  subst e9
                  exact List.mem_filter.mpr ⟨List.mem_of_getElem? jmc_74, rfl⟩
                · skip
                  rcases Nat.lt_or_ge j 76 with h9 | h9
                  · skip
                    have e9 : j = 75 := by omega
                    subst e9
                    exact List.mem_filter.mpr ⟨List.mem_of_getElem? jmc_75, rfl⟩
                  · skip
                    have e9 : j = 76 := by omega
                    subst e9
                    exact List.mem_filter.mpr ⟨List.mem_of_getElem? jmc_76, rfl⟩
          · skip
            rcases Nat.lt_or_ge j 83 with h9 | h9
            · skip
              rcases Nat.lt_or_ge j 80 with h9 | h9
              · skip
                rcases Nat.lt_or_ge j 78 with h9 | h9
                · skip
                  have e9 : j = 77 := by omega
                  subst e9
                  exact List.mem_filter.mpr ⟨List.mem_of_getElem? jmc_77, rfl⟩
                · skip
                  rcases Nat.lt_or_ge j 79 with h9 | h9
                  · skip
                    have e9 : j = 78 := by omega
                    subst e9
                    exact List.mem_filter.mpr ⟨List.mem_of_getElem? jmc_78, rfl⟩
                  · skip
                    have e9 : j = 79 := by omega
                    subst e9
                    exact List.mem_filter.mpr ⟨List.mem_of_getElem? jmc_79, rfl⟩
              · skip
                rcases Nat.lt_or_ge j 81 with h9 | h9
                · skip
                  have e9 : j = 80 := by omega
                  subst e9
                  exact List.mem_filter.mpr ⟨List.mem_of_getElem? jmc_80, rfl⟩
                · skip
                  rcases Nat.lt_or_ge j 82 with h9 | h9
                  · skip
                    have e9 : j = 81 := by omega
                    subst e9
                    exact List.mem_filter.mpr ⟨List.mem_of_getElem? jmc_81, rfl⟩
                  · skip
                    have e9 : j = 82 := by omega
                    subst e9
                    exact List.mem_filter.mpr ⟨List.mem_of_getElem? jmc_82, rfl⟩
            · skip
              rcases Nat.lt_or_ge j 86 with h9 | h9
              · skip
                rcases Nat.lt_or_ge j 84 with h9 | h9
                · skip
                  have e9 : j = 83 := by omega
                  subst e9
                  exact List.mem_filter.mpr ⟨List.mem_of_getElem? jmc_83, rfl⟩
                · skip
                  rcases Nat.lt_or_ge j 85 with h9 | h9
                  · skip
                    have e9 : j = 84 := by omega
                    subst e9
                    exact List.mem_filter.mpr ⟨List.mem_of_getElem? jmc_84, rfl⟩
                  · skip
                    have e9 : j = 85 := by omega
                    subst e9
                    exact List.mem_filter.mpr ⟨List.mem_of_getElem? jmc_85, rfl⟩
              · skip
                rcases Nat.lt_or_ge j 87 with h9 | h9
                · skip
                  have e9 : j = 86 := by omega
                  subst e9
                  exact List.mem_filter.mpr ⟨List.mem_of_getElem? jmc_86, rfl⟩
                · skip
                  rcases Nat.lt_or_ge j 88 with h9 | h9
                  · skip
                    have e9 : j = 87 := by omega
                    subst e9
                    exact List.mem_filter.mpr ⟨List.mem_of_getElem? jmc_87, rfl⟩
                  · skip
                    have e9 : j = 88 := by omega
                    subst e9
                    exact List.mem_filter.mpr ⟨List.mem_of_getElem? jmc_88, rfl⟩
    · skip
      rcases Nat.lt_or_ge j 134 with h9 | h9
      · skip
        rcases Nat.lt_or_ge j 111 with h9 | h9
        · skip
          rcases Nat.lt_or_ge j 100 with h9 | h9
          · skip
            rcases Nat.lt_or_ge j 94 with h9 | h9
            · skip
              rcases Nat.lt_or_ge j 91 with h9 | h9
              · skip
                rcases Nat.lt_or_ge j 90 with h9 | h9
                · skip
                  have e9 : j = 89 := by omega
                  subst e9
                  exact List.mem_filter.mpr ⟨List.mem_of_getElem? jmc_89, rfl⟩
                · skip
                  have e9 : j = 90 := by omega
                  subst e9
                  exact List.mem_filter.mpr ⟨List.mem_of_getElem? jmc_90, rfl⟩
              · skip
                rcases Nat.lt_or_ge j 92 with h9 | h9
                · skip
                  have e9 : j = 91 := by omega
                  subst e9
                  exact List.mem_filter.mpr ⟨List.mem_of_getElem? jmc_91, rfl⟩
                · skip
                  rcases Nat.lt_or_ge j 93 with h9 | h9
                  · skip
                    have e9 : j = 92 := by omega
                    subst e9
                    exact List.mem_filter.mpr ⟨List.mem_of_getElem? jmc_92, rfl⟩
                  · skip
                    have e9 : j = 93 := by omega
                    subst e9
                    exact List.mem_filter.mpr ⟨List.mem_of_getElem? jmc_93, rfl⟩
            · skip
              rcases Nat.lt_or_ge j 97 with h9 | h9
              · skip
                rcases Nat.lt_or_ge j 95 with h9 | h9
                · skip
                  have e9 : j = 94 := by omega
                  subst e9
                  exact List.mem_filter.mpr ⟨List.mem_of_getElem? jmc_94, rfl⟩
                · skip
                  rcases Nat.lt_or_ge j 96 with h9 | h9
                  · skip
                    have e9 : j = 95 := by omega
                    subst e9
                    exact List.mem_filter.mpr ⟨List.mem_of_getElem? jmc_95, rfl⟩
                  · skip
                    have e9 : j = 96 := by omega
                    subst e9
                    exact List.mem_filter.mpr ⟨List.mem_of_getElem? jmc_96, rfl⟩
              · skip
                rcases Nat.lt_or_ge j 98 with h9 | h9
                · skip
                  have e9 : j = 97 := by omega
                  subst e9
                  exact List.mem_filter.mpr ⟨List.mem_of_getElem? jmc_97, rfl⟩
                · skip
                  rcases Nat.lt_or_ge j 99 with h9 | h9
                  · skip
                    have e9 : j = 98 := by omega
                    subst e9
                    exact List.mem_filter.mpr ⟨List.mem_of_getElem? jmc_98, rfl⟩
                  · skip
                    have e9 : j = 99 := by omega
                    subst e9
                    exact List.mem_filter.mpr ⟨List.mem_of_getElem? jmc_99, rfl⟩
          · skip
            rcases Nat.lt_or_ge j 105 with h9 | h9
            · skip
              rcases Nat.lt_or_ge j 102 with h9 | h9
              · skip
                rcases Nat.lt_or_ge j 101 with h9 | h9
                · skip
                  have e9 : j = 100 := by omega
                  subst e9
                  exact List.mem_filter.mpr ⟨List.mem_of_getElem? jmc_100, rfl⟩
                · skip
                  have e9 : j = 101 := by omega
                  subst e9
                  exact List.mem_filter.mpr ⟨List.mem_of_getElem? jmc_101, rfl⟩
              · skip
                rcases Nat.lt_or_ge j 103 with h9 | h9
                · skip
                  have e9 : j = 102 := by omega
                  subst e9
                  exact List.mem_filter.mpr ⟨List.mem_of_getElem? jmc_102, rfl⟩
                · skip
                  rcases Nat.lt_or_ge j 104 with h9 | h9
                  · skip
                    have e9 : j = 103 := by omega
                    subst e9
                    exact List.mem_filter.mpr ⟨List.mem_of_getElem? jmc_103, rfl⟩
                  · skip
                    have e9 : j = 104 := by omega
                    subst e9
                    exact List.mem_filter.mpr ⟨List.mem_of_getElem? jmc_104, rfl⟩
            · skip
              rcases Nat.lt_or_ge j 108 with h9 | h9
              · skip
                rcases Nat.lt_or_ge j 106 with h9 | h9
                · skip
                  have e9 : j = 105 := by omega
                  subst e9
                  exact List.mem_filter.mpr ⟨List.mem_of_getElem? jmc_105, rfl⟩
                · skip
                  rcases Nat.lt_or_ge j 107 with h9 | h9
                  · skip
                    have e9 : j = 106 := by omega
                    subst e9
                    exact List.mem_filter.mpr ⟨List.mem_of_getElem? jmc_106, rfl⟩
                  · skip
                    have e9 : j = 107 := by omega
                    subst e9
                    exact List.mem_filter.mpr ⟨List.mem_of_getElem? jmc_107, rfl⟩
              · skip
                rcases Nat.lt_or_ge j 109 with h9 | h9
                · skip
                  have e9 : j = 108 := by omega
                  subst e9
                  exact List.mem_filter.mpr ⟨List.mem_of_getElem? jmc_108, rfl⟩
                · skip
                  rcases Nat.lt_or_ge j 110 with h9 | h9
                  · skip
                    have e9 : j = 109 := by omega
                    subst e9
                    exact List.mem_filter.mpr ⟨List.mem_of_getElem? jmc_109, rfl⟩
                  · skip
                    have e9 : j = 110 := by omega
                    subst e9
                    exact List.mem_filter.mpr ⟨List.mem_of_getElem? jmc_110, rfl⟩
        · skip
          rcases Nat.lt_or_ge j 122 with h9 | h9
          · skip
            rcases Nat.lt_or_ge j 116 with h9 | h9
            · skip
              rcases Nat.lt_or_ge j 113 with h9 | h9
              · skip
                rcases Nat.lt_or_ge j 112 with h9 | h9
                · skip
                  have e9 : j = 111 := by omega
                  subst e9
                  exact List.mem_filter.mpr ⟨List.mem_of_getElem? jmc_111, rfl⟩
                · skip
                  have e9 : j = 112 := by omega
                  subst e9
                  exact List.mem_filter.mpr ⟨List.mem_of_getElem? jmc_112, rfl⟩
              · skip
                rcases Nat.lt_or_ge j 114 with h9 | h9
                · skip
                  have e9 : j = 113 := by omega
                  subst e9
                  exact List.mem_filter.mpr ⟨List.mem_of_getElem? jmc_113, rfl⟩
                · skip
                  rcases Nat.lt_or_ge j 115 with h9 | h9
                  · skip
                    have e9 : j = 114 := by omega
                    subst e9
                    exact List.mem_filter.mpr ⟨List.mem_of_getElem? jmc_114, rfl⟩
                  · skip
                    have e9 : j = 115 := by omega
                    subst e9
                    exact List.mem_filter.mpr ⟨List.mem_of_getElem? jmc_115, rfl⟩
            · skip
              rcases Nat.lt_or_ge j 119 with h9 | h9
              · skip
                rcases Nat.lt_or_ge j 117 with h9 | h9
                · skip
                  have e9 : j = 116 := by omega
                  subst e9
                  exact List.mem_filter.mpr ⟨List.mem_of_getElem? jmc_116, rfl⟩
                · skip
                  rcases Nat.lt_or_ge j 118 with h9 | h9
                  · skip
                    have e9 : j = 117 := by omega
                    subst e9
                    exact List.mem_filter.mpr ⟨List.mem_of_getElem? jmc_117, rfl⟩
                  · skip
                    have e9 : j = 118 := by omega
                    subst e9
                    exact List.mem_filter.mpr ⟨List.mem_of_getElem? jmc_118, rfl⟩
              · skip
                rcases Nat.lt_or_ge j 120 with h9 | h9
                · skip
                  have e9 : j = 119 := by omega
                  subst e9
                  exact List.mem_filter.mpr ⟨List.mem_of_getElem? jmc_119, rfl⟩
                · skip
                  rcases Nat.lt_or_ge j 121 with h9 | h9
                  · skip
                    have e9 : j = 120 := by omega
                    subst e9
                    exact List.mem_filter.mpr ⟨List.mem_of_getElem? jmc_120, rfl⟩
                  · skip
                    have e9 : j = 121 := by omega
                    subst e9
                    exact List.mem_filter.mpr ⟨List.mem_of_getElem? jmc_121, rfl⟩
          · skip
            rcases Nat.lt_or_ge j 128 with h9 | h9
            · skip
              rcases Nat.lt_or_ge j 125 with h9 | h9
              · skip
                rcases Nat.lt_or_ge j 123 with h9 | h9
                · skip
                  have e9 : j = 122 := by omega
                  subst e9
                  exact List.mem_filter.mpr ⟨List.mem_of_getElem? jmc_122, rfl⟩
                · skip
                  rcases Nat.lt_or_ge j 124 with h9 | h9
                  · skip
                    have e9 : j = 123 := by omega
                    subst e9
                    exact List.mem_filter.mpr ⟨List.mem_of_getElem? jmc_123, rfl⟩
                  · skip
                    have e9 : j = 124 := by omega
                    subst e9
                    exact List.mem_filter.mpr ⟨List.mem_of_getElem? jmc_124, rfl⟩
              · skip
                rcases Nat.lt_or_ge j 126 with h9 | h9
                · skip
                  have e9 : j = 125 := by omega
                  subst e9
                  exact List.mem_filter.mpr ⟨List.mem_of_getElem? jmc_125, rfl⟩
                · skip
                  rcases Nat.lt_or_ge j 127 with h9 | h9
                  · skip
                    have e9 : j = 126 := by omega
                    subst e9
                    exact List.mem_filter.mpr ⟨List.mem_of_getElem? jmc_126, rfl⟩
                  · skip
                    have e9 : j = 127 := by omega
                    subst e9
                    exact List.mem_filter.mpr ⟨List.mem_of_getElem? jmc_127, rfl⟩
            · skip
              rcases Nat.lt_or_ge j 131 with h9 | h9
              · skip
                rcases Nat.lt_or_ge j 129 with h9 | h9
                · skip
                  have e9 : j = 128 := by omega
                  subst e9
                  exact List.mem_filter.mpr ⟨List.mem_of_getElem? jmc_128, rfl⟩
                · skip
                  rcases Nat.lt_or_ge j 130 with h9 | h9
                  · skip
                    have e9 : j = 129 := by omega
                    subst e9
                    exact List.mem_filter.mpr ⟨List.mem_of_getElem? jmc_129, rfl⟩
                  · skip
                    have e9 : j = 130 := by omega
                    subst e9
                    exact List.mem_filter.mpr ⟨List.mem_of_getElem? jmc_130, rfl⟩
              · skip
                rcases Nat.lt_or_ge j 132 with h9 | h9
                · skip
                  have e9 : j = 131 := by omega
                  subst e9
                  exact List.mem_filter.mpr ⟨List.mem_of_getElem? jmc_131, rfl⟩
                · skip
                  rcases Nat.lt_or_ge j 133 with h9 | h9
                  · skip
                    have e9 : j = 132 := by omega
                    subst e9
                    exact List.mem_filter.mpr ⟨List.mem_of_getElem? jmc_132, rfl⟩
                  · skip
                    have e9 : j = 133 := by omega
                    subst e9
                    exact List.mem_filter.mpr ⟨List.mem_of_getElem? jmc_133, rfl⟩
      · skip
        rcases Nat.lt_or_ge j 156 with h9 | h9
        · skip
          rcases Nat.lt_or_ge j 145 with h9 | h9
          · skip
            rcases Nat.lt_or_ge j 139 with h9 | h9
            · skip
              rcases Nat.lt_or_ge j 136 with h9 | h9
              · skip
                rcases Nat.lt_or_ge j 135 with h9 | h9
                · skip
                  have e9 : j = 134 := by omega
                  subst e9
                  exact List.mem_filter.mpr ⟨List.mem_of_getElem? jmc_134, rfl⟩
                · skip
                  have e9 : j = 135 := by omega
                  subst e9
                  exact List.mem_filter.mpr ⟨List.mem_of_getElem? jmc_135, rfl⟩
              · skip
                rcases Nat.lt_or_ge j 137 with h9 | h9
                · skip
                  have e9 : j = 136 := by omega
                  subst e9
                  exact List.mem_filter.mpr ⟨List.mem_of_getElem? jmc_136, rfl⟩
                · skip
                  rcases Nat.lt_or_ge j 138 with h9 | h9
                  · skip
                    have e9 : j = 137 := by omega
                    subst e9
                    exact List.mem_filter.mpr ⟨List.mem_of_getElem? jmc_137, rfl⟩
                  · skip
                    have e9 : j = 138 := by omega
                    subst e9
                    exact List.mem_filter.mpr ⟨List.mem_of_getElem? jmc_138, rfl⟩
            · skip
              rcases Nat.lt_or_ge j 142 with h9 | h9
              · skip
                rcases Nat.lt_or_ge j 140 with h9 | h9
                · skip
                  have e9 : j = 139 := by omega
                  subst e9
                  exact List.mem_filter.mpr ⟨List.mem_of_getElem? jmc_139, rfl⟩
                · skip
                  rcases Nat.lt_or_ge j 141 with h9 | h9
                  · skip
                    have e9 : j = 140 := by omega
                    subst e9
                    exact List.mem_filter.mpr ⟨List.mem_of_getElem? jmc_140, rfl⟩
                  · skip
                    have e9 : j = 141 := by omega
                    subst e9
                    exact List.mem_filter.mpr ⟨List.mem_of_getElem? jmc_141, rfl⟩
              · skip
                rcases Nat.lt_or_ge j 143 with h9 | h9
                · skip
                  have e9 : j = 142 := by omega
                  subst e9
                  exact List.mem_filter.mpr ⟨List.mem_of_getElem? jmc_142, rfl⟩
                · skip
                  rcases Nat.lt_or_ge j 144 with h9 | h9
                  · skip
                    have e9 : j = 143 := by omega
                    subst e9
                    exact List.mem_filter.mpr ⟨List.mem_of_getElem? jmc_143, rfl⟩
                  · skip
                    have e9 : j = 144 := by omega
                    subst e9
                    exact List.mem_filter.mpr ⟨List.mem_of_getElem? jmc_144, rfl⟩
          · skip
            rcases Nat.lt_or_ge j 150 with h9 | h9
            · skip
              rcases Nat.lt_or_ge j 147 with h9 | h9
              · skip
                rcases Nat.lt_or_ge j 146 with h9 | h9
                · skip
                  have e9 : j = 145 := by omega
                  subst e9
                  exact List.mem_filter.mpr ⟨List.mem_of_getElem? jmc_145, rfl⟩
                · skip
                  have e9 : j = 146 := by omega
                  subst e9
                  exact List.mem_filter.mpr ⟨List.mem_of_getElem? jmc_146, rfl⟩
              · skip
                rcases Nat.lt_or_ge j 148 with h9 | h9
                · skip
                  have e9 : j = 147 := by omega
                  subst e9
                  exact List.mem_filter.mpr ⟨List.mem_of_getElem? jmc_147, rfl⟩
                · skip
                  rcases Nat.lt_or_ge j 149 with h9 | h9
                  · skip
                    have e9 : j = 148 := by omega
                    subst e9
                    exact List.mem_filter.mpr ⟨List.mem_of_getElem? jmc_148, rfl⟩
                  · skip
                    have e9 : j = 149 := by omega
                    subst e9
                    exact List.mem_filter.mpr ⟨List.mem_of_getElem? jmc_149, rfl⟩
            · skip
              rcases Nat.lt_or_ge j 153 with h9 | h9
              · skip
                rcases Nat.lt_or_ge j 151 with h9 | h9
                · skip
                  have e9 : j = 150 := by omega
                  subst e9
                  exact List.mem_filter.mpr ⟨List.mem_of_getElem? jmc_150, rfl⟩
                · skip
                  rcases Nat.lt_or_ge j 152 with h9 | h9
                  · skip
                    have e9 : j = 151 := by omega
                    subst e9
                    exact List.mem_filter.mpr ⟨List.mem_of_getElem? jmc_151, rfl⟩
                  · skip
                    have e9 : j = 152 := by omega
                    subst e9
                    exact List.mem_filter.mpr ⟨List.mem_of_getElem? jmc_152, rfl⟩
              · skip
                rcases Nat.lt_or_ge j 154 with h9 | h9
                · skip
                  have e9 : j = 153 := by omega
                  subst e9
                  exact List.mem_filter.mpr ⟨List.mem_of_getElem? jmc_153, rfl⟩
                · skip
                  rcases Nat.lt_or_ge j 155 with h9 | h9
                  · skip
                    have e9 : j = 154 := by omega
                    subst e9
                    exact List.mem_filter.mpr ⟨List.mem_of_getElem? jmc_154, rfl⟩
                  · skip
                    have e9 : j = 155 := by omega
                    subst e9
                    exact List.mem_filter.mpr ⟨List.mem_of_getElem? jmc_155, rfl⟩
        · skip
          rcases Nat.lt_or_ge j 167 with h9 | h9
          · skip
            rcases Nat.lt_or_ge j 161 with h9 | h9
            · skip
              rcases Nat.lt_or_ge j 158 with h9 | h9
              · skip
                rcases Nat.lt_or_ge j 157 with h9 | h9
                · skip
                  have e9 : j = 156 := by omega
                  subst e9
                  exact List.mem_filter.mpr ⟨List.mem_of_getElem? jmc_156, rfl⟩
                · skip
                  have e9 : j = 157 := by omega
                  subst e9
                  exact List.mem_filter.mpr ⟨List.mem_of_getElem? jmc_157, rfl⟩
              · skip
                rcases Nat.lt_or_ge j 159 with h9 | h9
                · skip
                  have e9 : j = 158 := by omega
                  subst e9
                  exact List.mem_filter.mpr ⟨List.mem_of_getElem? jmc_158, rfl⟩
                · skip
                  rcases Nat.lt_or_ge j 160 with h9 | h9
                  · skip
                    have e9 : j = 159 := by omega
                    subst e9
                    exact List.mem_filter.mpr ⟨List.mem_of_getElem? jmc_159, rfl⟩
                  · skip
                    have e9 : j = 160 := by omega
                    subst e9
                    exact List.mem_filter.mpr ⟨List.mem_of_getElem? jmc_160, rfl⟩
            · skip
              rcases Nat.lt_or_ge j 164 with h9 | h9
              · skip
                rcases Nat.lt_or_ge j 162 with h9 | h9
                · skip
                  have e9 : j = 161 := by omega
                  subst e9
                  exact List.mem_filter.mpr ⟨List.mem_of_getElem? jmc_161, rfl⟩
                · skip
                  rcases Nat.lt_or_ge j 163 with h9 | h9
                  · skip
                    have e9 : j = 162 := by omega
                    subst e9
                    exact List.mem_filter.mpr ⟨List.mem_of_getElem? jmc_162, rfl⟩
                  · skip
                    have e9 : j = 163 := by omega
                    subst e9
                    exact List.mem_filter.mpr ⟨List.mem_of_getElem? jmc_163, rfl⟩
              · skip
                rcases Nat.lt_or_ge j 165 with h9 | h9
                · skip
                  have e9 : j = 164 := by omega
                  subst e9
                  exact List.mem_filter.mpr ⟨List.mem_of_getElem? jmc_164, rfl⟩
                · skip
                  rcases Nat.lt_or_ge j 166 with h9 | h9
                  · skip
                    have e9 : j = 165 := by omega
                    subst e9
                    exact List.mem_filter.mpr ⟨List.mem_of_getElem? jmc_165, rfl⟩
                  · skip
                    have e9 : j = 166 := by omega
                    subst e9
                    exact List.mem_filter.mpr ⟨List.mem_of_getElem? jmc_166, rfl⟩
          · skip
            rcases Nat.lt_or_ge j 173 with h9 | h9
            · skip
              rcases Nat.lt_or_ge j 170 with h9 | h9
              · skip
                rcases Nat.lt_or_ge j 168 with h9 | h9
                · skip
                  have e9 : j = 167 := by omega
                  subst e9
                  exact List.mem_filter.mpr ⟨List.mem_of_getElem? jmc_167, rfl⟩
                · skip
                  rcases Nat.lt_or_ge j 169 with h9 | h9
                  · skip
                    have e9 : j = 168 := by omega
                    subst e9
                    exact List.mem_filter.mpr ⟨List.mem_of_getElem? jmc_168, rfl⟩
                  · skip
                    have e9 : j = 169 := by omega
                    subst e9
                    exact List.mem_filter.mpr ⟨List.mem_of_getElem? jmc_169, rfl⟩
              · skip
                rcases Nat.lt_or_ge j 171 with h9 | h9
                · skip
                  have e9 : j = 170 := by omega
                  subst e9
                  exact List.mem_filter.mpr ⟨List.mem_of_getElem? jmc_170, rfl⟩
                · skip
                  rcases Nat.lt_or_ge j 172 with h9 | h9
                  · skip
                    have e9 : j = 171 := by omega
                    subst e9
                    exact List.mem_filter.mpr ⟨List.mem_of_getElem? jmc_171, rfl⟩
                  · skip
                    have e9 : j = 172 := by omega
                    subst e9
                    exact List.mem_filter.mpr ⟨List.mem_of_getElem? jmc_172, rfl⟩
            · skip
              rcases Nat.lt_or_ge j 176 with h9 | h9
              · skip
                rcases Nat.lt_or_ge j 174 with h9 | h9
                · skip
                  have e9 : j = 173 := by omega
                  subst e9
                  exact List.mem_filter.mpr ⟨List.mem_of_getElem? jmc_173, rfl⟩
                · skip
                  rcases Nat.lt_or_ge j 175 with h9 | h9
                  · skip
                    have e9 : j = 174 := by omega
                    subst e9
                    exact List.mem_filter.mpr ⟨List.mem_of_getElem? jmc_174, rfl⟩
                  · skip
                    have e9 : j = 175 := by omega
                    subst e9
                    exact List.mem_filter.mpr ⟨List.mem_of_getElem? jmc_175, rfl⟩
              · skip
                rcases Nat.lt_or_ge j 177 with h9 | h9
                · skip
                  have e9 : j = 176 := by omega
                  subst e9
                  exact List.mem_filter.mpr ⟨List.mem_of_getElem? jmc_176, rfl⟩
                · skip
                  rcases Nat.lt_or_ge j 178 with h9 | h9
                  · skip
                    have e9 : j = 177 := by omega
                    subst e9
                    exact List.mem_filter.mpr ⟨List.mem_of_getElem? jmc_177, rfl⟩
                  · skip
                    have e9 : j = 178 := by omega
                    subst e9
                    exact List.mem_filter.mpr ⟨List.mem_of_getElem? jmc_178, rfl⟩
  · skip
    rcases Nat.lt_or_ge j 269 with h9 | h9
    · skip
      rcases Nat.lt_or_ge j 224 with h9 | h9
      · skip
        rcases Nat.lt_or_ge j 201 with h9 | h9
        · skip
          rcases Nat.lt_or_ge j 190 with h9 | h9
          · skip
            rcases Nat.lt_or_ge j 184 with h9 | h9
            · skip
              rcases Nat.lt_or_ge j 181 with h9 | h9
              · skip
                rcases Nat.lt_or_ge j 180 with h9 | h9
                · skip
                  have e9 : j = 179 := by omega
                  subst e9
                  exact List.mem_filter.mpr ⟨List.mem_of_getElem? jmc_179, rfl⟩
                · skip
                  have e9 : j = 180 := by omega
                  subst e9
                  exact List.mem_filter.mpr ⟨List.mem_of_getElem? jmc_180, rfl⟩
              · skip
                rcases Nat.lt_or_ge j 182 with h9 | h9
                · skip
                  have e9 : j = 181 := by omega
                  subst e9
                  exact List.mem_filter.mpr ⟨List.mem_of_getElem? jmc_181, rfl⟩
                · skip
                  rcases Nat.lt_or_ge j 183 with h9 | h9
                  · skip
                    have e9 : j = 182 := by omega
                    subst e9
                    exact List.mem_filter.mpr ⟨List.mem_of_getElem? jmc_182, rfl⟩
                  · skip
                    have e9 : j = 183 := by omega
                    subst e9
                    exact List.mem_filter.mpr ⟨List.mem_of_getElem? jmc_183, rfl⟩
            · skip
              rcases Nat.lt_or_ge j 187 with h9 | h9
              · skip
                rcases Nat.lt_or_ge j 185 with h9 | h9
                · skip
                  have e9 : j = 184 := by omega
                  subst e9
                  exact List.mem_filter.mpr ⟨List.mem_of_getElem? jmc_184, rfl⟩
                · skip
                  rcases Nat.lt_or_ge j 186 with h9 | h9
                  · skip
                    have e9 : j = 185 := by omega
                    subst e9
                    exact List.mem_filter.mpr ⟨List.mem_of_getElem? jmc_185, rfl⟩
                  · skip
                    have e9 : j = 186 := by omega
                    subst e9
                    exact List.mem_filter.mpr ⟨List.mem_of_getElem? jmc_186, rfl⟩
              · skip
                rcases Nat.lt_or_ge j 188 with h9 | h9
                · skip
                  have e9 : j = 187 := by omega
                  subst e9
                  exact List.mem_filter.mpr ⟨List.mem_of_getElem? jmc_187, rfl⟩
                · skip
                  rcases Nat.lt_or_ge j 189 with h9 | h9
                  · skip
                    have e9 : j = 188 := by omega
                    subst e9
                    exact List.mem_filter.mpr ⟨List.mem_of_getElem? jmc_188, rfl⟩
                  · skip
                    have e9 : j = 189 := by omega
                    subst e9
                    exact List.mem_filter.mpr ⟨List.mem_of_getElem? jmc_189, rfl⟩
          · skip
            rcases Nat.lt_or_ge j 195 with h9 | h9
            · skip
              rcases Nat.lt_or_ge j 192 with h9 | h9
              · skip
                rcases Nat.lt_or_ge j 191 with h9 | h9
                · skip
                  have e9 : j = 190 := by omega
                  subst e9
                  exact List.mem_filter.mpr ⟨List.mem_of_getElem? jmc_190, rfl⟩
                · skip
                  have e9 : j = 191 := by omega
                  subst e9
                  exact List.mem_filter.mpr ⟨List.mem_of_getElem? jmc_191, rfl⟩
              · skip
                rcases Nat.lt_or_ge j 193 with h9 | h9
                · skip
                  have e9 : j = 192 := by omega
                  subst e9
                  exact List.mem_filter.mpr ⟨List.mem_of_getElem? jmc_192, rfl⟩
                · skip
                  rcases Nat.lt_or_ge j 194 with h9 | h9
                  · skip
                    have e9 : j = 193 := by omega
                    subst e9
                    exact List.mem_filter.mpr ⟨List.mem_of_getElem? jmc_193, rfl⟩
                  · skip
                    have e9 : j = 194 := by omega
                    subst e9
                    exact List.mem_filter.mpr ⟨List.mem_of_getElem? jmc_194, rfl⟩
            · skip
              rcases Nat.lt_or_ge j 198 with h9 | h9
              · skip
                rcases Nat.lt_or_ge j 196 with h9 | h9
                · skip
                  have e9 : j = 195 := by omega
                  subst e9
                  exact List.mem_filter.mpr ⟨List.mem_of_getElem? jmc_195, rfl⟩
                · skip
                  rcases Nat.lt_or_ge j 197 with h9 | h9
                  · skip
                    have e9 : j = 196 := by omega
                    subst e9
                    exact List.mem_filter.mpr ⟨List.mem_of_getElem? jmc_196, rfl⟩
                  · skip
                    have e9 : j = 197 := by omega
                    subst e9
                    exact List.mem_filter.mpr ⟨List.mem_of_getElem? jmc_197, rfl⟩
              · skip
                rcases Nat.lt_or_ge j 199 with h9 | h9
                · skip
                  have e9 : j = 198 := by omega
                  subst e9
                  exact List.mem_filter.mpr ⟨List.mem_of_getElem? jmc_198, rfl⟩
                · skip
                  rcases Nat.lt_or_ge j 200 with h9 | h9
                  · skip
                    have e9 : j = 199 := by omega
                    subst e9
                    exact List.mem_filter.mpr ⟨List.mem_of_getElem? jmc_199, rfl⟩
                  · skip
                    have e9 : j = 200 := by omega
                    subst e9
                    exact List.mem_filter.mpr ⟨List.mem_of_getElem? jmc_200, rfl⟩
        · skip
          rcases Nat.lt_or_ge j 212 with h9 | h9
          · skip
            rcases Nat.lt_or_ge j 206 with h9 | h9
            · skip
              rcases Nat.lt_or_ge j 203 with h9 | h9
              · skip
                rcases Nat.lt_or_ge j 202 with h9 | h9
                · skip
                  have e9 : j = 201 := by omega
                  subst e9
                  exact List.mem_filter.mpr ⟨List.mem_of_getElem? jmc_201, rfl⟩
                · skip
                  have e9 : j = 202 := by omega
                  subst e9
                  exact List.mem_filter.mpr ⟨List.mem_of_getElem? jmc_202, rfl⟩
              · skip
                rcases Nat.lt_or_ge j 204 with h9 | h9
                · skip
                  have e9 : j = 203 := by omega
                  subst e9
                  exact List.mem_filter.mpr ⟨List.mem_of_getElem? jmc_203, rfl⟩
                · skip
                  rcases Nat.lt_or_ge j 205 with h9 | h9
                  · skip
                    have e9 : j = 204 := by omega
                    subst e9
                    exact List.mem_filter.mpr ⟨List.mem_of_getElem? jmc_204, rfl⟩
                  · skip
                    have e9 : j = 205 := by omega
                    subst e9
                    exact List.mem_filter.mpr ⟨List.mem_of_getElem? jmc_205, rfl⟩
            · skip
              rcases Nat.lt_or_ge j 209 with h9 | h9
              · skip
                rcases Nat.lt_or_ge j 207 with h9 | h9
                · skip
                  have e9 : j = 206 := by omega
                  subst e9
                  exact List.mem_filter.mpr ⟨List.mem_of_getElem? jmc_206, rfl⟩
                · skip
                  rcases Nat.lt_or_ge j 208 with h9 | h9
                  · skip
                    have e9 : j = 207 := by omega
                    subst e9
                    exact List.mem_filter.mpr ⟨List.mem_of_getElem? jmc_207, rfl⟩
                  · skip
                    have e9 : j = 208 := by omega
                    subst e9
                    exact List.mem_filter.mpr ⟨List.mem_of_getElem? jmc_208, rfl⟩
              · skip
                rcases Nat.lt_or_ge j 210 with h9 | h9
                · skip
                  have e9 : j = 209 := by omega
                  subst e9
                  exact List.mem_filter.mpr ⟨List.mem_of_getElem? jmc_209, rfl⟩
                · skip
                  rcases Nat.lt_or_ge j 211 with h9 | h9
                  · skip
                    have e9 : j = 210 := by omega
                    subst e9
                    exact List.mem_filter.mpr ⟨List.mem_of_getElem? jmc_210, rfl⟩
                  · skip
                    have e9 : j = 211 := by omega
                    subst e9
                    exact List.mem_filter.mpr ⟨List.mem_of_getElem? jmc_211, rfl⟩
          · skip
            rcases Nat.lt_or_ge j 218 with h9 | h9
            · skip
              rcases Nat.lt_or_ge j 215 with h9 | h9
              · skip
                rcases Nat.lt_or_ge j 213 with h9 | h9
                · skip
                  have e9 : j = 212 := by omega
                  subst e9
                  exact List.mem_filter.mpr ⟨List.mem_of_getElem? jmc_212, rfl⟩
                · skip
                  rcases Nat.lt_or_ge j 214 with h9 | h9
                  · skip
                    have e9 : j = 213 := by omega
                    subst e9
                    exact List.mem_filter.mpr ⟨List.mem_of_getElem? jmc_213, rfl⟩
                  · skip
                    have e9 : j = 214 := by omega
                    subst e9
                    exact List.mem_filter.mpr ⟨List.mem_of_getElem? jmc_214, rfl⟩
              · skip
                rcases Nat.lt_or_ge j 216 with h9 | h9
                · skip
                  have e9 : j = 215 := by omega
                  subst e9
                  exact List.mem_filter.mpr ⟨List.mem_of_getElem? jmc_215, rfl⟩
                · skip
                  rcases Nat.lt_or_ge j 217 with h9 | h9
                  · skip
                    have e9 : j = 216 := by omega
                    subst e9
                    exact List.mem_filter.mpr ⟨List.mem_of_getElem? jmc_216, rfl⟩
                  · skip
                    have e9 : j = 217 := by omega
                    subst e9
                    exact List.mem_filter.mpr ⟨List.mem_of_getElem? jmc_217, rfl⟩
            · skip
              rcases Nat.lt_or_ge j 221 with h9 | h9
              · skip
                rcases Nat.lt_or_ge j 219 with h9 | h9
                · skip
                  have e9 : j = 218 := by omega
                  subst e9
                  exact List.mem_filter.mpr ⟨List.mem_of_getElem? jmc_218, rfl⟩
                · skip
                  rcases Nat.lt_or_ge j 220 with h9 | h9
                  · skip
                    have e9 : j = 219 := by omega
                    subst e9
                    exact List.mem_filter.mpr ⟨List.mem_of_getElem? jmc_219, rfl⟩
                  · skip
                    have e9 : j = 220 := by omega
                    subst e9
                    exact List.mem_filter.mpr ⟨List.mem_of_getElem? jmc_220, rfl⟩
              · skip
                rcases Nat.lt_or_ge j 222 with h9 | h9
                · skip
                  have e9 : j = 221 := by omega
                  subst e9
                  exact List.mem_filter.mpr ⟨List.mem_of_getElem? jmc_221, rfl⟩
                · skip
                  rcases Nat.lt_or_ge j 223 with h9 | h9
                  · skip
                    have e9 : j = 222 := by omega
                    subst e9
                    exact List.mem_filter.mpr ⟨List.mem_of_getElem? jmc_222, rfl⟩
                  · skip
                    have e9 : j = 223 := by omega
                    subst e9
                    exact List.mem_filter.mpr ⟨List.mem_of_getElem? jmc_223, rfl⟩
      · skip
        rcases Nat.lt_or_ge j 246 with h9 | h9
        · skip
          rcases Nat.lt_or_ge j 235 with h9 | h9
          · skip
            rcases Nat.lt_or_ge j 229 with h9 | h9
            · skip
              rcases Nat.lt_or_ge j 226 with h9 | h9
              · skip
                rcases Nat.lt_or_ge j 225 with h9 | h9
                · skip
                  have e9 : j = 224 := by omega
                  subst e9
                  exact List.mem_filter.mpr ⟨List.mem_of_getElem? jmc_224, rfl⟩
                · skip
                  have e9 : j = 225 := by omega
                  subst e9
                  exact List.mem_filter.mpr ⟨List.mem_of_getElem? jmc_225, rfl⟩
              · skip
                rcases Nat.lt_or_ge j 227 with h9 | h9
                · skip
                  have e9 : j = 226 := by omega
                  subst e9
                  exact List.mem_filter.mpr ⟨List.mem_of_getElem? jmc_226, rfl⟩
                · skip
                  rcases Nat.lt_or_ge j 228 with h9 | h9
                  · skip
                    have e9 : j = 227 := by omega
                    subst e9
                    exact List.mem_filter.mpr ⟨List.mem_of_getElem? jmc_227, rfl⟩
                  · skip
                    have e9 : j = 228 := by omega
                    subst e9
                    exact List.mem_filter.mpr ⟨List.mem_of_getElem? jmc_228, rfl⟩
            · skip
              rcases Nat.lt_or_ge j 232 with h9 | h9
              · skip
                rcases Nat.lt_or_ge j 230 with h9 | h9
                · skip
                  have e9 : j = 229 := by omega
                  subst e9
                  exact List.mem_filter.mpr ⟨List.mem_of_getElem? jmc_229, rfl⟩
                · skip
                  rcases Nat.lt_or_ge j 231 with h9 | h9
                  · skip
                    have e9 : j = 230 := by omega
                    subst e9
                    exact List.mem_filter.mpr ⟨List.mem_of_getElem? jmc_230, rfl⟩
                  · skip
                    have e9 : j = 231 := by omega
                    subst e9
                    exact List.mem_filter.mpr ⟨List.mem_of_getElem? jmc_231, rfl⟩
              · skip
                rcases Nat.lt_or_ge j 233 with h9 | h9
                · skip
                  have e9 : j = 232 := by omega
                  subst e9
                  exact List.mem_filter.mpr ⟨List.mem_of_getElem? jmc_232, rfl⟩
                · skip
                  rcases Nat.lt_or_ge j 234 with h9 | h9
                  · skip
                    have e9 : j = 233 := by omega
                    subst e9
                    exact List.mem_filter.mpr ⟨List.mem_of_getElem? jmc_233, rfl⟩
                  · skip
                    have e9 : j = 234 := by omega
                    subst e9
                    exact List.mem_filter.mpr ⟨List.mem_of_getElem? jmc_234, rfl⟩
          · skip
            rcases Nat.lt_or_ge j 240 with h9 | h9
            · skip
              rcases Nat.lt_or_ge j 237 with h9 | h9
              · skip
                rcases Nat.lt_or_ge j 236 with h9 | h9
                · skip
                  have e9 : j = 235 := by omega
                  subst e9
                  exact List.mem_filter.mpr ⟨List.mem_of_getElem? jmc_235, rfl⟩
                · skip
                  have e9 : j = 236 := by omega
                  subst e9
                  exact List.mem_filter.mpr ⟨List.mem_of_getElem? jmc_236, rfl⟩
              · skip
                rcases Nat.lt_or_ge j 238 with h9 | h9
                · skip
                  have e9 : j = 237 := by omega
                  subst e9
                  exact List.mem_filter.mpr ⟨List.mem_of_getElem? jmc_237, rfl⟩
                · skip
                  rcases Nat.lt_or_ge j 239 with h9 | h9
                  · skip
                    have e9 : j = 238 := by omega
                    subst e9
                    exact List.mem_filter.mpr ⟨List.mem_of_getElem? jmc_238, rfl⟩
                  · skip
                    have e9 : j = 239 := by omega
                    subst e9
                    exact List.mem_filter.mpr ⟨List.mem_of_getElem? jmc_239, rfl⟩
            · skip
              rcases Nat.lt_or_ge j 243 with h9 | h9
              · skip
                rcases Nat.lt_or_ge j 241 with h9 | h9
                · skip
                  have e9 : j = 240 := by omega
                  subst e9
                  exact List.mem_filter.mpr ⟨List.mem_of_getElem? jmc_240, rfl⟩
                · skip
                  rcases Nat.lt_or_ge j 242 with h9 | h9
                  · skip
                    have e9 : j = 241 := by omega
                    subst e9
                    exact List.mem_filter.mpr ⟨List.mem_of_getElem? jmc_241, rfl⟩
                  · skip
                    have e9 : j = 242 := by omega
                    subst e9
                    exact List.mem_filter.mpr ⟨List.mem_of_getElem? jmc_242, rfl⟩
              · skip
                rcases Nat.lt_or_ge j 244 with h9 | h9
                · skip
                  have e9 : j = 243 := by omega
                  subst e9
                  exact List.mem_filter.mpr ⟨List.mem_of_getElem? jmc_243, rfl⟩
                · skip
                  rcases Nat.lt_or_ge j 245 with h9 | h9
                  · skip
                    have e9 : j = 244 := by omega
                    subst e9
                    exact List.mem_filter.mpr ⟨List.mem_of_getElem? jmc_244, rfl⟩
                  · skip
                    have e9 : j = 245 := by omega
                    subst e9
                    exact List.mem_filter.mpr ⟨List.mem_of_getElem? jmc_245, rfl⟩
        · skip
          rcases Nat.lt_or_ge j 257 with h9 | h9
          · skip
            rcases Nat.lt_or_ge j 251 with h9 | h9
            · skip
              rcases Nat.lt_or_ge j 248 with h9 | h9
              · skip
                rcases Nat.lt_or_ge j 247 with h9 | h9
                · skip
                  have e9 : j = 246 := by omega
                  subst e9
                  exact List.mem_filter.mpr ⟨List.mem_of_getElem? jmc_246, rfl⟩
                · skip
                  have e9 : j = 247 := by omega
                  subst e9
                  exact List.mem_filter.mpr ⟨List.mem_of_getElem? jmc_247, rfl⟩
              · skip
                rcases Nat.lt_or_ge j 249 with h9 | h9
                · skip
                  have e9 : j = 248 := by omega
                  subst e9
                  exact List.mem_filter.mpr ⟨List.mem_of_getElem? jmc_248, rfl⟩
                · skip
                  rcases Nat.lt_or_ge j 250 with h9 | h9
                  · skip
                    have e9 : j = 249 := by omega
                    subst e9
                    exact List.mem_filter.mpr ⟨List.mem_of_getElem? jmc_249, rfl⟩
                  · skip
                    have e9 : j = 250 := by omega
                    subst e9
                    exact List.mem_filter.mpr ⟨List.mem_of_getElem? jmc_250, rfl⟩
            · skip
              rcases Nat.lt_or_ge j 254 with h9 | h9
              · skip
                rcases Nat.lt_or_ge j 252 with h9 | h9
                · skip
                  have e9 : j = 251 := by omega
                  subst e9
                  exact List.mem_filter.mpr ⟨List.mem_of_getElem? jmc_251, rfl⟩
                · skip
                  rcases Nat.lt_or_ge j 253 with h9 | h9
                  · skip
                    have e9 : j = 252 := by omega
                    subst e9
                    exact List.mem_filter.mpr ⟨List.mem_of_getElem? jmc_252, rfl⟩
                  · skip
                    have e9 : j = 253 := by omega
                    subst e9
                    exact List.mem_filter.mpr ⟨List.mem_of_getElem? jmc_253, rfl⟩
              · skip
                rcases Nat.lt_or_ge j 255 with h9 | h9
                · skip
                  have e9 : j = 254 := by omega
                  subst e9
                  exact List.mem_filter.mpr ⟨List.mem_of_getElem? jmc_254, rfl⟩
                · skip
                  rcases Nat.lt_or_ge j 256 with h9 | h9
                  · skip
                    have e9 : j = 255 := by omega
                    subst e9
                    exact List.mem_filter.mpr ⟨List.mem_of_getElem? jmc_255, rfl⟩
                  · skip
                    have e9 : j = 256 := by omega
                    subst e9
                    exact List.mem_filter.mpr ⟨List.mem_of_getElem? jmc_256, rfl⟩
          · skip
            rcases Nat.lt_or_ge j 263 with h9 | h9
            · skip
              rcases Nat.lt_or_ge j 260 with h9 | h9
              · skip
                rcases Nat.lt_or_ge j 258 with h9 | h9
                · skip
                  have e9 : j = 257 := by omega
                  subst e9
                  exact List.mem_filter.mpr ⟨List.mem_of_getElem? jmc_257, rfl⟩
                · skip
                  rcases Nat.lt_or_ge j 259 with h9 | h9
                  · skip
                    have e9 : j = 258 := by omega
                    subst e9
                    exact List.mem_filter.mpr ⟨List.mem_of_getElem? jmc_258, rfl⟩
                  · skip
                    have e9 : j = 259 := by omega
                    subst e9
                    exact List.mem_filter.mpr ⟨List.mem_of_getElem? jmc_259, rfl⟩
              · skip
                rcases Nat.lt_or_ge j 261 with h9 | h9
                · skip
                  have e9 : j = 260 := by omega
                  subst e9
                  exact List.mem_filter.mpr ⟨List.mem_of_getElem? jmc_260, rfl⟩
                · skip
                  rcases Nat.lt_or_ge j 262 with h9 | h9
                  · skip
                    have e9 : j = 261 := by omega
                    subst e9
                    exact List.mem_filter.mpr ⟨List.mem_of_getElem? jmc_261, rfl⟩
                  · skip
                    have e9 : j = 262 := by omega
                    subst e9
                    exact List.mem_filter.mpr ⟨List.mem_of_getElem? jmc_262, rfl⟩
            · skip
              rcases Nat.lt_or_ge j 266 with h9 | h9
              · skip
                rcases Nat.lt_or_ge j 264 with h9 | h9
                · skip
                  have e9 : j = 263 := by omega
                  subst e9
                  exact List.mem_filter.mpr ⟨List.mem_of_getElem? jmc_263, rfl⟩
                · skip
                  rcases Nat.lt_or_ge j 265 with h9 | h9
                  · skip
                    have e9 : j = 264 := by omega
                    subst e9
                    exact List.mem_filter.mpr ⟨List.mem_of_getElem? jmc_264, rfl⟩
                  · skip
                    have e9 : j = 265 := by omega
                    subst e9
                    exact List.mem_filter.mpr ⟨List.mem_of_getElem? jmc_265, rfl⟩
              · skip
                rcases Nat.lt_or_ge j 267 with h9 | h9
                · skip
                  have e9 : j = 266 := by omega
                  subst e9
                  exact List.mem_filter.mpr ⟨List.mem_of_getElem? jmc_266, rfl⟩
                · skip
                  rcases Nat.lt_or_ge j 268 with h9 | h9
                  · skip
                    have e9 : j = 267 := by omega
                    subst e9
                    exact List.mem_filter.mpr ⟨List.mem_of_getElem? jmc_267, rfl⟩
                  · skip
                    have e9 : j = 268 := by omega
                    subst e9
                    exact List.mem_filter.mpr ⟨List.mem_of_getElem? jmc_268, rfl⟩
    · skip
      rcases Nat.lt_or_ge j 314 with h9 | h9
      · skip
        rcases Nat.lt_or_ge j 291 with h9 | h9
        · skip
          rcases Nat.lt_or_ge j 280 with h9 | h9
          · skip
            rcases Nat.lt_or_ge j 274 with h9 | h9
            · skip
              rcases Nat.lt_or_ge j 271 with h9 | h9
              · skip
                rcases Nat.lt_or_ge j 270 with h9 | h9
                · skip
                  have e9 : j = 269 := by omega
                  subst e9
                  exact List.mem_filter.mpr ⟨List.mem_of_getElem? jmc_269, rfl⟩
                · skip
                  have e9 : j = 270 := by omega
                  subst e9
                  exact List.mem_filter.mpr ⟨List.mem_of_getElem? jmc_270, rfl⟩
              · skip
                rcases Nat.lt_or_ge j 272 with h9 | h9
                · skip
                  have e9 : j = 271 := by omega
                  subst e9
                  exact List.mem_filter.mpr ⟨List.mem_of_getElem? jmc_271, rfl⟩
                · skip
                  rcases Nat.lt_or_ge j 273 with h9 | h9
                  · skip
                    have e9 : j = 272 := by omega
                    subst e9
                    exact List.mem_filter.mpr ⟨List.mem_of_getElem? jmc_272, rfl⟩
                  · skip
                    have e9 : j = 273 := by omega
                    subst e9
                    exact List.mem_filter.mpr ⟨List.mem_of_getElem? jmc_273, rfl⟩
            · skip
              rcases Nat.lt_or_ge j 277 with h9 | h9
              · skip
                rcases Nat.lt_or_ge j 275 with h9 | h9
                · skip
                  have e9 : j = 274 := by omega
                  subst e9
                  exact List.mem_filter.mpr ⟨List.mem_of_getElem? jmc_274, rfl⟩
                · skip
                  rcases Nat.lt_or_ge j 276 with h9 | h9
                  · skip
                    have e9 : j = 275 := by omega
                    subst e9
                    exact List.mem_filter.mpr ⟨List.mem_of_getElem? jmc_275, rfl⟩
                  · skip
                    have e9 : j = 276 := by omega
                    subst e9
                    exact List.mem_filter.mpr ⟨List.mem_of_getElem? jmc_276, rfl⟩
              · skip
                rcases Nat.lt_or_ge j 278 with h9 | h9
                · skip
                  have e9 : j = 277 := by omega
                  subst e9
                  exact List.mem_filter.mpr ⟨List.mem_of_getElem? jmc_277, rfl⟩
                · skip
                  rcases Nat.lt_or_ge j 279 with h9 | h9
                  · skip
                    have e9 : j = 278 := by omega
                    subst e9
                    exact List.mem_filter.mpr ⟨List.mem_of_getElem? jmc_278, rfl⟩
                  · skip
                    have e9 : j = 279 := by omega
                    subst e9
                    exact List.mem_filter.mpr ⟨List.mem_of_getElem? jmc_279, rfl⟩
          · skip
            rcases Nat.lt_or_ge j 285 with h9 | h9
            · skip
              rcases Nat.lt_or_ge j 282 with h9 | h9
              · skip
                rcases Nat.lt_or_ge j 281 with h9 | h9
                · skip
                  have e9 : j = 280 := by omega
                  subst e9
                  exact List.mem_filter.mpr ⟨List.mem_of_getElem? jmc_280, rfl⟩
                · skip
                  have e9 : j = 281 := by omega
                  subst e9
                  exact List.mem_filter.mpr ⟨List.mem_of_getElem? jmc_281, rfl⟩
              · skip
                rcases Nat.lt_or_ge j 283 with h9 | h9
                · skip
                  have e9 : j = 282 := by omega
                  subst e9
                  exact List.mem_filter.mpr ⟨List.mem_of_getElem? jmc_282, rfl⟩
                · skip
                  rcases Nat.lt_or_ge j 284 with h9 | h9
                  · skip
                    have e9 : j = 283 := by omega
                    subst e9
                    exact List.mem_filter.mpr ⟨List.mem_of_getElem? jmc_283, rfl⟩
                  · skip
                    have e9 : j = 284 := by omega
                    subst e9
                    exact List.mem_filter.mpr ⟨List.mem_of_getElem? jmc_284, rfl⟩
            · skip
              rcases Nat.lt_or_ge j 288 with h9 | h9
              · skip
                rcases Nat.lt_or_ge j 286 with h9 | h9
                · skip
                  have e9 : j = 285 := by omega
                  subst e9
                  exact List.mem_filter.mpr ⟨List.mem_of_getElem? jmc_285, rfl⟩
                · skip
                  rcases Nat.lt_or_ge j 287 with h9 | h9
                  · skip
                    have e9 : j = 286 := by omega
                    subst e9
                    exact List.mem_filter.mpr ⟨List.mem_of_getElem? jmc_286, rfl⟩
                  · skip
                    have e9 : j = 287 := by omega
                    subst e9
                    exact List.mem_filter.mpr ⟨List.mem_of_getElem? jmc_287, rfl⟩
              · skip
                rcases Nat.lt_or_ge j 289 with h9 | h9
                · skip
                  have e9 : j = 288 := by omega
                  subst e9
                  exact List.mem_filter.mpr ⟨List.mem_of_getElem? jmc_288, rfl⟩
                · skip
                  rcases Nat.lt_or_ge j 290 with h9 | h9
                  · skip
                    have e9 : j = 289 := by omega
                    subst e9
                    exact List.mem_filter.mpr ⟨List.mem_of_getElem? jmc_289, rfl⟩
                  · skip
                    have e9 : j = 290 := by omega
                    subst e9
                    exact List.mem_filter.mpr ⟨List.mem_of_getElem? jmc_290, rfl⟩
        · skip
          rcases Nat.lt_or_ge j 302 with h9 | h9
          · skip
            rcases Nat.lt_or_ge j 296 with h9 | h9
            · skip
              rcases Nat.lt_or_ge j 293 with h9 | h9
              · skip
                rcases Nat.lt_or_ge j 292 with h9 | h9
                · skip
                  have e9 : j = 291 := by omega
                  subst e9
                  exact List.mem_filter.mpr ⟨List.mem_of_getElem? jmc_291, rfl⟩
                · skip
                  have e9 : j = 292 := by omega
                  subst e9
                  exact List.mem_filter.mpr ⟨List.mem_of_getElem? jmc_292, rfl⟩
              · skip
                rcases Nat.lt_or_ge j 294 with h9 | h9
                · skip
                  have e9 : j = 293 := by omega
                  subst e9
                  exact List.mem_filter.mpr ⟨List.mem_of_getElem? jmc_293, rfl⟩
                · skip
                  rcases Nat.lt_or_ge j 295 with h9 | h9
                  · skip
                    have e9 : j = 294 := by omega
                    subst e9
                    exact List.mem_filter.mpr ⟨List.mem_of_getElem? jmc_294, rfl⟩
                  · skip
                    have e9 : j = 295 := by omega
                    subst e9
                    exact List.mem_filter.mpr ⟨List.mem_of_getElem? jmc_295, rfl⟩
            · skip
              rcases Nat.lt_or_ge j 299 with h9 | h9
              · skip
                rcases Nat.lt_or_ge j 297 with h9 | h9
                · skip
                  have e9 : j = 296 := by omega
                  subst e9
                  exact List.mem_filter.mpr ⟨List.mem_of_getElem? jmc_296, rfl⟩
                · skip
                  rcases Nat.lt_or_ge j 298 with h9 | h9
                  · skip
                    have e9 : j = 297 := by omega
                    subst e9
                    exact List.mem_filter.mpr ⟨List.mem_of_getElem? jmc_297, rfl⟩
                  · skip
                    have e9 : j = 298 := by omega
                    subst e9
                    exact List.mem_filter.mpr ⟨List.mem_of_getElem? jmc_298, rfl⟩
              · skip
                rcases Nat.lt_or_ge j 300 with h9 | h9
                · skip
                  have e9 : j = 299 := by omega
                  subst e9
                  exact List.mem_filter.mpr ⟨List.mem_of_getElem? jmc_299, rfl⟩
                · skip
                  rcases Nat.lt_or_ge j 301 with h9 | h9
                  · skip
                    have e9 : j = 300 := by omega
                    subst e9
                    exact List.mem_filter.mpr ⟨List.mem_of_getElem? jmc_300, rfl⟩
                  · skip
                    have e9 : j = 301 := by omega
                    subst e9
                    exact List.mem_filter.mpr ⟨List.mem_of_getElem? jmc_301, rfl⟩
          · skip
            rcases Nat.lt_or_ge j 308 with h9 | h9
            · skip
              rcases Nat.lt_or_ge j 305 with h9 | h9
              · skip
                rcases Nat.lt_or_ge j 303 with h9 | h9
                · skip
                  have e9 : j = 302 := by omega
                  subst e9
                  exact List.mem_filter.mpr ⟨List.mem_of_getElem? jmc_302, rfl⟩
                · skip
                  rcases Nat.lt_or_ge j 304 with h9 | h9
                  · skip
                    have e9 : j = 303 := by omega
                    subst e9
                    exact List.mem_filter.mpr ⟨List.mem_of_getElem? jmc_303, rfl⟩
                  · skip
                    have e9 : j = 304 := by omega
                    subst e9
                    exact List.mem_filter.mpr ⟨List.mem_of_getElem? jmc_304, rfl⟩
              · skip
                rcases Nat.lt_or_ge j 306 with h9 | h9
                · skip
                  have e9 : j = 305 := by omega
                  subst e9
                  exact List.mem_filter.mpr ⟨List.mem_of_getElem? jmc_305, rfl⟩
                · skip
                  rcases Nat.lt_or_ge j 307 with h9 | h9
                  · skip
                    have e9 : j = 306 := by omega
                    subst e9
                    exact List.mem_filter.mpr ⟨List.mem_of_getElem? jmc_306, rfl⟩
                  · skip
                    have e9 : j = 307 := by omega
                    subst e9
                    exact List.mem_filter.mpr ⟨List.mem_of_getElem? jmc_307, rfl⟩
            · skip
              rcases Nat.lt_or_ge j 311 with h9 | h9
              · skip
                rcases Nat.lt_or_ge j 309 with h9 | h9
                · skip
                  have e9 : j = 308 := by omega
                  subst e9
                  exact List.mem_filter.mpr ⟨List.mem_of_getElem? jmc_308, rfl⟩
                · skip
                  rcases Nat.lt_or_ge j 310 with h9 | h9
                  · skip
                    have e9 : j = 309 := by omega
                    subst e9
                    exact List.mem_filter.mpr ⟨List.mem_of_getElem? jmc_309, rfl⟩
                  · skip
                    have e9 : j = 310 := by omega
                    subst e9
                    exact List.mem_filter.mpr ⟨List.mem_of_getElem? jmc_310, rfl⟩
              · skip
                rcases Nat.lt_or_ge j 312 with h9 | h9
                · skip
                  have e9 : j = 311 := by omega
                  subst e9
                  exact List.mem_filter.mpr ⟨List.mem_of_getElem? jmc_311, rfl⟩
                · skip
                  rcases Nat.lt_or_ge j 313 with h9 | h9
                  · skip
                    have e9 : j = 312 := by omega
                    subst e9
                    exact List.mem_filter.mpr ⟨List.mem_of_getElem? jmc_312, rfl⟩
                  · skip
                    have e9 : j = 313 := by omega
                    subst e9
                    exact List.mem_filter.mpr ⟨List.mem_of_getElem? jmc_313, rfl⟩
      · skip
        rcases Nat.lt_or_ge j 336 with h9 | h9
        · skip
          rcases Nat.lt_or_ge j 325 with h9 | h9
          · skip
            rcases Nat.lt_or_ge j 319 with h9 | h9
            · skip
              rcases Nat.lt_or_ge j 316 with h9 | h9
              · skip
                rcases Nat.lt_or_ge j 315 with h9 | h9
                · skip
                  have e9 : j = 314 := by omega
                  subst e9
                  exact List.mem_filter.mpr ⟨List.mem_of_getElem? jmc_314, rfl⟩
                · skip
                  have e9 : j = 315 := by omega
                  subst e9
                  exact List.mem_filter.mpr ⟨List.mem_of_getElem? jmc_315, rfl⟩
              · skip
                rcases Nat.lt_or_ge j 317 with h9 | h9
                · skip
                  have e9 : j = 316 := by omega
                  subst e9
                  exact List.mem_filter.mpr ⟨List.mem_of_getElem? jmc_316, rfl⟩
                · skip
                  rcases Nat.lt_or_ge j 318 with h9 | h9
                  · skip
                    have e9 : j = 317 := by omega
                    subst e9
                    exact List.mem_filter.mpr ⟨List.mem_of_getElem? jmc_317, rfl⟩
                  · skip
                    have e9 : j = 318 := by omega
                    subst e9
                    exact List.mem_filter.mpr ⟨List.mem_of_getElem? jmc_318, rfl⟩
            · skip
              rcases Nat.lt_or_ge j 322 with h9 | h9
              · skip
                rcases Nat.lt_or_ge j 320 with h9 | h9
                · skip
                  have e9 : j = 319 := by omega
                  subst e9
                  exact List.mem_filter.mpr ⟨List.mem_of_getElem? jmc_319, rfl⟩
                · skip
                  rcases Nat.lt_or_ge j 321 with h9 | h9
                  · skip
                    have e9 : j = 320 := by omega
                    subst e9
                    exact List.mem_filter.mpr ⟨List.mem_of_getElem? jmc_320, rfl⟩
                  · skip
                    have e9 : j = 321 := by omega
                    subst e9
                    exact List.mem_filter.mpr ⟨List.mem_of_getElem? jmc_321, rfl⟩
              · skip
                rcases Nat.lt_or_ge j 323 with h9 | h9
                · skip
                  have e9 : j = 322 := by omega
                  subst e9
                  exact List.mem_filter.mpr ⟨List.mem_of_getElem? jmc_322, rfl⟩
                · skip
                  rcases Nat.lt_or_ge j 324 with h9 | h9
                  · skip
                    have e9 : j = 323 := by omega
                    subst e9
                    exact List.mem_filter.mpr ⟨List.mem_of_getElem? jmc_323, rfl⟩
                  · skip
                    have e9 : j = 324 := by omega
                    subst e9
                    exact List.mem_filter.mpr ⟨List.mem_of_getElem? jmc_324, rfl⟩
          · skip
            rcases Nat.lt_or_ge j 330 with h9 | h9
            · skip
              rcases Nat.lt_or_ge j 327 with h9 | h9
              · skip
                rcases Nat.lt_or_ge j 326 with h9 | h9
                · skip
                  have e9 : j = 325 := by omega
                  subst e9
                  exact List.mem_filter.mpr ⟨List.mem_of_getElem? jmc_325, rfl⟩
                · skip
                  have e9 : j = 326 := by omega
                  subst e9
                  exact List.mem_filter.mpr ⟨List.mem_of_getElem? jmc_326, rfl⟩
              · skip
                rcases Nat.lt_or_ge j 328 with h9 | h9
                · skip
                  have e9 : j = 327 := by omega
                  subst e9
                  exact List.mem_filter.mpr ⟨List.mem_of_getElem? jmc_327, rfl⟩
                · skip
                  rcases Nat.lt_or_ge j 329 with h9 | h9
                  · skip
                    have e9 : j = 328 := by omega
                    subst e9
                    exact List.mem_filter.mpr ⟨List.mem_of_getElem? jmc_328, rfl⟩
                  · skip
                    have e9 : j = 329 := by omega
                    subst e9
                    exact List.mem_filter.mpr ⟨List.mem_of_getElem? jmc_329, rfl⟩
            · skip
              rcases Nat.lt_or_ge j 333 with h9 | h9
              · skip
                rcases Nat.lt_or_ge j 331 with h9 | h9
                · skip
                  have e9 : j = 330 := by omega
                  subst e9
                  exact List.mem_filter.mpr ⟨List.mem_of_getElem? jmc_330, rfl⟩
                · skip
                  rcases Nat.lt_or_ge j 332 with h9 | h9
                  · skip
                    have e9 : j = 331 := by omega
                    subst e9
                    exact List.mem_filter.mpr ⟨List.mem_of_getElem? jmc_331, rfl⟩
                  · skip
                    have e9 : j = 332 := by omega
                    subst e9
                    exact List.mem_filter.mpr ⟨List.mem_of_getElem? jmc_332, rfl⟩
              · skip
                rcases Nat.lt_or_ge j 334 with h9 | h9
                · skip
                  have e9 : j = 333 := by omega
                  subst e9
                  exact List.mem_filter.mpr ⟨List.mem_of_getElem? jmc_333, rfl⟩
                · skip
                  rcases Nat.lt_or_ge j 335 with h9 | h9
                  · skip
                    have e9 : j = 334 := by omega
                    subst e9
                    exact List.mem_filter.mpr ⟨List.mem_of_getElem? jmc_334, rfl⟩
                  · skip
                    have e9 : j = 335 := by omega
                    subst e9
                    exact List.mem_filter.mpr ⟨List.mem_of_getElem? jmc_335, rfl⟩
        · skip
          rcases Nat.lt_or_ge j 347 with h9 | h9
          · skip
            rcases Nat.lt_or_ge j 341 with h9 | h9
            · skip
              rcases Nat.lt_or_ge j 338 with h9 | h9
              · skip
                rcases Nat.lt_or_ge j 337 with h9 | h9
                · skip
                  have e9 : j = 336 := by omega
                  subst e9
                  exact List.mem_filter.mpr ⟨List.mem_of_getElem? jmc_336, rfl⟩
                · skip
                  have e9 : j = 337 := by omega
                  subst e9
                  exact List.mem_filter.mpr ⟨List.mem_of_getElem? jmc_337, rfl⟩
              · skip
                rcases Nat.lt_or_ge j 339 with h9 | h9
                · skip
                  have e9 : j = 338 := by omega
                  subst e9
                  exact List.mem_filter.mpr ⟨List.mem_of_getElem? jmc_338, rfl⟩
                · skip
                  rcases Nat.lt_or_ge j 340 with h9 | h9
                  · skip
                    have e9 : j = 339 := by omega
                    subst e9
                    exact List.mem_filter.mpr ⟨List.mem_of_getElem? jmc_339, rfl⟩
                  · skip
                    have e9 : j = 340 := by omega
                    subst e9
                    exact List.mem_filter.mpr ⟨List.mem_of_getElem? jmc_340, rfl⟩
            · skip
              rcases Nat.lt_or_ge j 344 with h9 | h9
              · skip
                rcases Nat.lt_or_ge j 342 with h9 | h9
                · skip
                  have e9 : j = 341 := by omega
                  subst e9
                  exact List.mem_filter.mpr ⟨List.mem_of_getElem? jmc_341, rfl⟩
                · skip
                  rcases Nat.lt_or_ge j 343 with h9 | h9
                  · skip
                    have e9 : j = 342 := by omega
                    subst e9
                    exact List.mem_filter.mpr ⟨List.mem_of_getElem? jmc_342, rfl⟩
                  · skip
                    have e9 : j = 343 := by omega
                    subst e9
                    exact List.mem_filter.mpr ⟨List.mem_of_getElem? jmc_343, rfl⟩
              · skip
                rcases Nat.lt_or_ge j 345 with h9 | h9
                · skip
                  have e9 : j = 344 := by omega
                  subst e9
                  exact List.mem_filter.mpr ⟨List.mem_of_getElem? jmc_344, rfl⟩
                · skip
                  rcases Nat.lt_or_ge j 346 with h9 | h9
                  · skip
                    have e9 : j = 345 := by omega
                    subst e9
                    exact List.mem_filter.mpr ⟨List.mem_of_getElem? jmc_345, rfl⟩
                  · skip
                    have e9 : j = 346 := by omega
                    subst e9
                    exact List.mem_filter.mpr ⟨List.mem_of_getElem? jmc_346, rfl⟩
          · skip
            rcases Nat.lt_or_ge j 353 with h9 | h9
            · skip
              rcases Nat.lt_or_ge j 350 with h9 | h9
              · skip
                rcases Nat.lt_or_ge j 348 with h9 | h9
                · skip
                  have e9 : j = 347 := by omega
                  subst e9
                  exact List.mem_filter.mpr ⟨List.mem_of_getElem? jmc_347, rfl⟩
                · skip
                  rcases Nat.lt_or_ge j 349 with h9 | h9
                  · skip
                    have e9 : j = 348 := by omega
                    subst e9
                    exact List.mem_filter.mpr ⟨List.mem_of_getElem? jmc_348, rfl⟩
                  · skip
                    have e9 : j = 349 := by omega
                    subst e9
                    exact List.mem_filter.mpr ⟨List.mem_of_getElem? jmc_349, rfl⟩
              · skip
                rcases Nat.lt_or_ge j 351 with h9 | h9
                · skip
                  have e9 : j = 350 := by omega
                  subst e9
                  exact List.mem_filter.mpr ⟨List.mem_of_getElem? jmc_350, rfl⟩
                · skip
                  rcases Nat.lt_or_ge j 352 with h9 | h9
                  · skip
                    have e9 : j = 351 := by omega
                    subst e9
                    exact List.mem_filter.mpr ⟨List.mem_of_getElem? jmc_351, rfl⟩
                  · skip
                    have e9 : j = 352 := by omega
                    subst e9
                    exact List.mem_filter.mpr ⟨List.mem_of_getElem? jmc_352, rfl⟩
            · skip
              rcases Nat.lt_or_ge j 356 with h9 | h9
              · skip
                rcases Nat.lt_or_ge j 354 with h9 | h9
                · skip
                  have e9 : j = 353 := by omega
                  subst e9
                  exact List.mem_filter.mpr ⟨List.mem_of_getElem? jmc_353, rfl⟩
                · skip
                  rcases Nat.lt_or_ge j 355 with h9 | h9
                  · skip
                    have e9 : j = 354 := by omega
                    subst e9
                    exact List.mem_filter.mpr ⟨List.mem_of_getElem? jmc_354, rfl⟩
                  · skip
                    have e9 : j = 355 := by omega
                    subst e9
                    exact List.mem_filter.mpr ⟨List.mem_of_getElem? jmc_355, rfl⟩
              · skip
                rcases Nat.lt_or_ge j 357 with h9 | h9
                · skip
                  have e9 : j = 356 := by omega
                  subst e9
                  exact List.mem_filter.mpr ⟨List.mem_of_getElem? jmc_356, rfl⟩
                · skip
                  rcases Nat.lt_or_ge j 358 with h9 | h9
                  · skip
                    have e9 : j = 357 := by omega
                    subst e9
                    exact List.mem_filter.mpr ⟨List.mem_of_getElem? jmc_357, rfl⟩
                  · skip
                    have e9 : j = 358 := by omega
                    subst e9
                    exact List.mem_filter.mpr ⟨List.mem_of_getElem? jmc_358, rfl⟩
