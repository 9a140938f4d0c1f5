/-! ===== all tables are right ===== -/
set_option maxRecDepth 10000 in
theorem xV_list : ∀ (m : Nat) (me : xMe), xPl[m]? = some me → m ≠ 1000 → xVm xY xB xP m me := by
  intro m me h _
  have hm : m < 304 := (List.getElem?_eq_some_iff.mp h).1
  rcases Nat.lt_or_ge m 152 with g | g
  · skip
    rcases Nat.lt_or_ge m 76 with g | g
    · skip
      rcases Nat.lt_or_ge m 38 with g | g
      · skip
        rcases Nat.lt_or_ge m 19 with g | g
        · skip
          rcases Nat.lt_or_ge m 9 with g | g
          · skip
            rcases Nat.lt_or_ge m 4 with g | g
            · skip
              rcases Nat.lt_or_ge m 2 with g | g
              · skip
                rcases Nat.lt_or_ge m 1 with g | g
                · skip
                  have e : m = 0 := by omega
                  subst e
                  cases h
                  exact xv0
                · skip
                  have e : m = 1 := by omega
                  subst e
                  cases h
                  exact xv1
              · skip
                rcases Nat.lt_or_ge m 3 with g | g
                · skip
                  have e : m = 2 := by omega
                  subst e
                  cases h
                  exact xv2
                · skip
                  have e : m = 3 := by omega
                  subst e
                  cases h
                  exact xv3
            · skip
              rcases Nat.lt_or_ge m 6 with g | g
              · skip
                rcases Nat.lt_or_ge m 5 with g | g
                · skip
                  have e : m = 4 := by omega
                  subst e
                  cases h
                  exact xv4
                · skip
                  have e : m = 5 := by omega
                  subst e
                  cases h
                  exact xv5
              · skip
                rcases Nat.lt_or_ge m 7 with g | g
                · skip
                  have e : m = 6 := by omega
                  subst e
                  cases h
                  exact xv6
                · skip
                  rcases Nat.lt_or_ge m 8 with g | g
                  · skip
                    have e : m = 7 := by omega
                    subst e
                    cases h
                    exact xv7
                  · skip
                    have e : m = 8 := by omega
                    subst e
                    cases h
                    exact xv8
          · skip
            rcases Nat.lt_or_ge m 14 with g | g
            · skip
              rcases Nat.lt_or_ge m 11 with g | g
              · skip
                rcases Nat.lt_or_ge m 10 with g | g
                · skip
                  have e : m = 9 := by omega
                  subst e
                  cases h
                  exact xv9
                · skip
                  have e : m = 10 := by omega
                  subst e
                  cases h
                  exact xv10
              · skip
                rcases Nat.lt_or_ge m 12 with g | g
                · skip
                  have e : m = 11 := by omega
                  subst e
                  cases h
                  exact xv11
                · skip
                  rcases Nat.lt_or_ge m 13 with g | g
                  · skip
                    have e : m = 12 := by omega
                    subst e
                    cases h
                    exact xv12
                  · skip
                    have e : m = 13 := by omega
                    subst e
                    cases h
                    exact xv13
            · skip
              rcases Nat.lt_or_ge m 16 with g | g
              · skip
                rcases Nat.lt_or_ge m 15 with g | g
                · skip
                  have e : m = 14 := by omega
                  subst e
                  cases h
                  exact xv14
                · skip
                  have e : m = 15 := by omega
                  subst e
                  cases h
                  exact xv15
              · skip
                rcases Nat.lt_or_ge m 17 with g | g
                · skip
                  have e : m = 16 := by omega
                  subst e
                  cases h
                  exact xv16
                · skip
                  rcases Nat.lt_or_ge m 18 with g | g
                  · skip
                    have e : m = 17 := by omega
                    subst e
                    cases h
                    exact xv17
                  · skip
                    have e : m = 18 := by omega
                    subst e
                    cases h
                    exact xv18
        · skip
          rcases Nat.lt_or_ge m 28 with g | g
          · skip
            rcases Nat.lt_or_ge m 23 with g | g
            · skip
              rcases Nat.lt_or_ge m 21 with g | g
              · skip
                rcases Nat.lt_or_ge m 20 with g | g
                · skip
                  have e : m = 19 := by omega
                  subst e
                  cases h
                  exact xv19
                · skip
                  have e : m = 20 := by omega
                  subst e
                  cases h
                  exact xv20
              · skip
                rcases Nat.lt_or_ge m 22 with g | g
                · skip
                  have e : m = 21 := by omega
                  subst e
                  cases h
                  exact xv21
                · skip
                  have e : m = 22 := by omega
                  subst e
                  cases h
                  exact xv22
            · skip
              rcases Nat.lt_or_ge m 25 with g | g
              · skip
                rcases Nat.lt_or_ge m 24 with g | g
                · skip
                  have e : m = 23 := by omega
                  subst e
                  cases h
                  exact xv23
                · skip
                  have e : m = 24 := by omega
                  subst e
                  cases h
                  exact xv24
              · skip
                rcases Nat.lt_or_ge m 26 with g | g
                · skip
                  have e : m = 25 := by omega
                  subst e
                  cases h
                  exact xv25
                · skip
                  rcases Nat.lt_or_ge m 27 with g | g
                  · skip
                    have e : m = 26 := by omega
                    subst e
                    cases h
                    exact xv26
                  · skip
                    have e : m = 27 := by omega
                    subst e
                    cases h
                    exact xv27
          · skip
            rcases Nat.lt_or_ge m 33 with g | g
            · skip
              rcases Nat.lt_or_ge m 30 with g | g
              · skip
                rcases Nat.lt_or_ge m 29 with g | g
                · skip
                  have e : m = 28 := by omega
                  subst e
                  cases h
                  exact xv28
                · skip
                  have e : m = 29 := by omega
                  subst e
                  cases h
                  exact xv29
              · skip
                rcases Nat.lt_or_ge m 31 with g | g
                · skip
                  have e : m = 30 := by omega
                  subst e
                  cases h
                  exact xv30
                · skip
                  rcases Nat.lt_or_ge m 32 with g | g
                  · skip
                    have e : m = 31 := by omega
                    subst e
                    cases h
                    exact xv31
                  · skip
                    have e : m = 32 := by omega
                    subst e
                    cases h
                    exact xv32
            · skip
              rcases Nat.lt_or_ge m 35 with g | g
              · skip
                rcases Nat.lt_or_ge m 34 with g | g
                · skip
                  have e : m = 33 := by omega
                  subst e
                  cases h
                  exact xv33
                · skip
                  have e : m = 34 := by omega
                  subst e
                  cases h
                  exact xv34
              · skip
                rcases Nat.lt_or_ge m 36 with g | g
                · skip
                  have e : m = 35 := by omega
                  subst e
                  cases h
                  exact xv35
                · skip
                  rcases Nat.lt_or_ge m 37 with g | g
                  · skip
                    have e : m = 36 := by omega
                    subst e
                    cases h
                    exact xv36
                  · skip
                    have e : m = 37 := by omega
                    subst e
                    cases h
                    exact xv37
      · skip
        rcases Nat.lt_or_ge m 57 with g | g
        · skip
          rcases Nat.lt_or_ge m 47 with g | g
          · skip
            rcases Nat.lt_or_ge m 42 with g | g
            · skip
              rcases Nat.lt_or_ge m 40 with g | g
              · skip
                rcases Nat.lt_or_ge m 39 with g | g
                · skip
                  have e : m = 38 := by omega
                  subst e
                  cases h
                  exact xv38
                · skip
                  have e : m = 39 := by omega
                  subst e
                  cases h
                  exact xv39
              · skip
                rcases Nat.lt_or_ge m 41 with g | g
                · skip
                  have e : m = 40 := by omega
                  subst e
                  cases h
                  exact xv40
                · skip
                  have e : m = 41 := by omega
                  subst e
                  cases h
                  exact xv41
            · skip
              rcases Nat.lt_or_ge m 44 with g | g
              · skip
                rcases Nat.lt_or_ge m 43 with g | g
                · skip
                  have e : m = 42 := by omega
                  subst e
                  cases h
                  exact xv42
                · skip
                  have e : m = 43 := by omega
                  subst e
                  cases h
                  exact xv43
              · skip
                rcases Nat.lt_or_ge m 45 with g | g
                · skip
                  have e : m = 44 := by omega
                  subst e
                  cases h
                  exact xv44
                · skip
                  rcases Nat.lt_or_ge m 46 with g | g
                  · skip
                    have e : m = 45 := by omega
                    subst e
                    cases h
                    exact xv45
                  · skip
                    have e : m = 46 := by omega
                    subst e
                    cases h
                    exact xv46
          · skip
            rcases Nat.lt_or_ge m 52 with g | g
            · skip
              rcases Nat.lt_or_ge m 49 with g | g
              · skip
                rcases Nat.lt_or_ge m 48 with g | g
                · skip
                  have e : m = 47 := by omega
                  subst e
                  cases h
                  exact xv47
                · skip
                  have e : m = 48 := by omega
                  subst e
                  cases h
                  exact xv48
              · skip
                rcases Nat.lt_or_ge m 50 with g | g
                · skip
                  have e : m = 49 := by omega
                  subst e
                  cases h
                  exact xv49
                · skip
                  rcases Nat.lt_or_ge m 51 with g | g
                  · skip
                    have e : m = 50 := by omega
                    subst e
                    cases h
                    exact xv50
                  · skip
                    have e : m = 51 := by omega
                    subst e
                    cases h
                    exact xv51
            · skip
              rcases Nat.lt_or_ge m 54 with g | g
              · skip
                rcases Nat.lt_or_ge m 53 with g | g
                · skip
                  have e : m = 52 := by omega
                  subst e
                  cases h
                  exact xv52
                · skip
                  have e : m = 53 := by omega
                  subst e
                  cases h
                  exact xv53
              · skip
                rcases Nat.lt_or_ge m 55 with g | g
                · skip
                  have e : m = 54 := by omega
                  subst e
                  cases h
                  exact xv54
                · skip
                  rcases Nat.lt_or_ge m 56 with g | g
                  · skip
                    have e : m = 55 := by omega
                    subst e
                    cases h
                    exact xv55
                  · skip
                    have e : m = 56 := by omega
                    subst e
                    cases h
                    exact xv56
        · skip
          rcases Nat.lt_or_ge m 66 with g | g
          · skip
            rcases Nat.lt_or_ge m 61 with g | g
            · skip
              rcases Nat.lt_or_ge m 59 with g | g
              · skip
                rcases Nat.lt_or_ge m 58 with g | g
                · skip
                  have e : m = 57 := by omega
                  subst e
                  cases h
                  exact xv57
                · skip
                  have e : m = 58 := by omega
                  subst e
                  cases h
                  exact xv58
              · skip
                rcases Nat.lt_or_ge m 60 with g | g
                · skip
                  have e : m = 59 := by omega
                  subst e
                  cases h
                  exact xv59
                · skip
                  have e : m = 60 := by omega
                  subst e
                  cases h
                  exact xv60
            · skip
              rcases Nat.lt_or_ge m 63 with g | g
              · skip
                rcases Nat.lt_or_ge m 62 with g | g
                · skip
                  have e : m = 61 := by omega
                  subst e
                  cases h
                  exact xv61
                · skip
                  have e : m = 62 := by omega
                  subst e
                  cases h
                  exact xv62
              · skip
                rcases Nat.lt_or_ge m 64 with g | g
                · skip
                  have e : m = 63 := by omega
                  subst e
                  cases h
                  exact xv63
                · skip
                  rcases Nat.lt_or_ge m 65 with g | g
                  · skip
                    have e : m = 64 := by omega
                    subst e
                    cases h
                    exact xv64
                  · skip
                    have e : m = 65 := by omega
                    subst e
                    cases h
                    exact xv65
          · skip
            rcases Nat.lt_or_ge m 71 with g | g
            · skip
              rcases Nat.lt_or_ge m 68 with g | g
              · skip
                rcases Nat.lt_or_ge m 67 with g | g
                · skip
                  have e : m = 66 := by omega
                  subst e
                  cases h
                  exact xv66
                · skip
                  have e : m = 67 := by omega
                  subst e
                  cases h
                  exact xv67
              · skip
                rcases Nat.lt_or_ge m 69 with g | g
                · skip
                  have e : m = 68 := by omega
                  subst e
                  cases h
                  exact xv68
                · skip
                  rcases Nat.lt_or_ge m 70 with g | g
                  · skip
                    have e : m = 69 := by omega
                    subst e
                    cases h
                    exact xv69
                  · skip
                    have e : m = 70 := by omega
                    subst e
                    cases h
                    exact xv70
            · skip
              rcases Nat.lt_or_ge m 73 with g | g
              · skip
                rcases Nat.lt_or_ge m 72 with g | g
                · skip
                  have e : m = 71 := by omega
                  subst e
                  cases h
                  exact xv71
                · skip
                  have e : m = 72 := by omega
                  subst e
                  cases h
                  exact xv72
              · skip
                rcases Nat.lt_or_ge m 74 with g | g
                · skip
                  have e : m = 73 := by omega
                  subst e
                  cases h
                  exact xv73
                · skip
                  rcases Nat.lt_or_ge m 75 with g | g
                  · skip
                    have e : m = 74 := by omega
                    subst e
                    cases h
                    exact xv74
                  · skip
                    have e : m = 75 := by omega
                    subst e
                    cases h
                    exact xv75
    · skip
      rcases Nat.lt_or_ge m 114 with g | g
      · skip
        rcases Nat.lt_or_ge m 95 with g | g
        · skip
          rcases Nat.lt_or_ge m 85 with g | g
          · skip
            rcases Nat.lt_or_ge m 80 with g | g
            · skip
              rcases Nat.lt_or_ge m 78 with g | g
              · skip
                rcases Nat.lt_or_ge m 77 with g | g
                · skip
                  have e : m = 76 := by omega
                  subst e
                  cases h
                  exact xv76
                · skip
                  have e : m = 77 := by omega
                  subst e
                  cases h
                  exact xv77
              · skip
                rcases Nat.lt_or_ge m 79 with g | g
                · skip
                  have e : m = 78 := by omega
                  subst e
                  cases h
                  exact xv78
                · skip
                  have e : m = 79 := by omega
                  subst e
                  cases h
                  exact xv79
            · skip
              rcases Nat.lt_or_ge m 82 with g | g
              · skip
                rcases Nat.lt_or_ge m 81 with g | g
                · skip
                  have e : m = 80 := by omega
                  subst e
                  cases h
                  exact xv80
                · skip
                  have e : m = 81 := by omega
                  subst e
                  cases h
                  exact xv81
              · skip
                rcases Nat.lt_or_ge m 83 with g | g
                · skip
                  have e : m = 82 := by omega
                  subst e
                  cases h
                  exact xv82
                · skip
                  rcases Nat.lt_or_ge m 84 with g | g
                  · skip
                    have e : m = 83 := by omega
                    subst e
                    cases h
                    exact xv83
                  · skip
                    have e : m = 84 := by omega
                    subst e
                    cases h
                    exact xv84
          · skip
            rcases Nat.lt_or_ge m 90 with g | g
            · skip
              rcases Nat.lt_or_ge m 87 with g | g
              · skip
                rcases Nat.lt_or_ge m 86 with g | g
                · skip
                  have e : m = 85 := by omega
                  subst e
                  cases h
                  exact xv85
                · skip
                  have e : m = 86 := by omega
                  subst e
                  cases h
                  exact xv86
              · skip
                rcases Nat.lt_or_ge m 88 with g | g
                · skip
                  have e : m = 87 := by omega
                  subst e
                  cases h
                  exact xv87
                · skip
                  rcases Nat.lt_or_ge m 89 with g | g
                  · skip
                    have e : m = 88 := by omega
                    subst e
                    cases h
                    exact xv88
                  · skip
                    have e : m = 89 := by omega
                    subst e
                    cases h
                    exact xv89
            · skip
              rcases Nat.lt_or_ge m 92 with g | g
              · skip
                rcases Nat.lt_or_ge m 91 with g | g
                · skip
                  have e : m = 90 := by omega
                  subst e
                  cases h
                  exact xv90
                · skip
                  have e : m = 91 := by omega
                  subst e
                  cases h
                  exact xv91
              · skip
                rcases Nat.lt_or_ge m 93 with g | g
                · skip
                  have e : m = 92 := by omega
                  subst e
                  cases h
                  exact xv92
                · skip
                  rcases Nat.lt_or_ge m 94 with g | g
                  · skip
                    have e : m = 93 := by omega
                    subst e
                    cases h
                    exact xv93
                  · skip
                    have e : m = 94 := by omega
                    subst e
                    cases h
                    exact xv94
        · skip
          rcases Nat.lt_or_ge m 104 with g | g
          · skip
            rcases Nat.lt_or_ge m 99 with g | g
            · skip
              rcases Nat.lt_or_ge m 97 with g | g
              · skip
                rcases Nat.lt_or_ge m 96 with g | g
                · skip
                  have e : m = 95 := by omega
                  subst e
                  cases h
                  exact xv95
                · skip
                  have e : m = 96 := by omega
                  subst e
                  cases h
                  exact xv96
              · skip
                rcases Nat.lt_or_ge m 98 with g | g
                · skip
                  have e : m = 97 := by omega
                  subst e
                  cases h
                  exact xv97
                · skip
                  have e : m = 98 := by omega
                  subst e
                  cases h
                  exact xv98
            · skip
              rcases Nat.lt_or_ge m 101 with g | g
              · skip
                rcases Nat.lt_or_ge m 100 with g | g
                · skip
                  have e : m = 99 := by omega
                  subst e
                  cases h
                  exact xv99
                · skip
                  have e : m = 100 := by omega
                  subst e
                  cases h
                  exact xv100
              · skip
                rcases Nat.lt_or_ge m 102 with g | g
                · skip
                  have e : m = 101 := by omega
                  subst e
                  cases h
                  exact xv101
                · skip
                  rcases Nat.lt_or_ge m 103 with g | g
                  · skip
                    have e : m = 102 := by omega
                    subst e
                    cases h
                    exact xv102
                  · skip
                    have e : m = 103 := by omega
                    subst e
                    cases h
                    exact xv103
          · skip
            rcases Nat.lt_or_ge m 109 with g | g
            · skip
              rcases Nat.lt_or_ge m 106 with g | g
              · skip
                rcases Nat.lt_or_ge m 105 with g | g
                · skip
                  have e : m = 104 := by omega
                  subst e
                  cases h
                  exact xv104
                · skip
                  have e : m = 105 := by omega
                  subst e
                  cases h
                  exact xv105
              · skip
                rcases Nat.lt_or_ge m 107 with g | g
                · skip
                  have e : m = 106 := by omega
                  subst e
                  cases h
                  exact xv106
                · skip
                  rcases Nat.lt_or_ge m 108 with g | g
                  · skip
                    have e : m = 107 := by omega
                    subst e
                    cases h
                    exact xv107
                  · skip
                    have e : m = 108 := by omega
                    subst e
                    cases h
                    exact xv108
            · skip
              rcases Nat.lt_or_ge m 111 with g | g
              · skip
                rcases Nat.lt_or_ge m 110 with g | g
                · skip
                  have e : m = 109 := by omega
                  subst e
                  cases h
                  exact xv109
                · skip
                  have e : m = 110 := by omega
                  subst e
                  cases h
                  exact xv110
              · skip
                rcases Nat.lt_or_ge m 112 with g | g
                · skip
                  have e : m = 111 := by omega
                  subst e
                  cases h
                  exact xv111
                · skip
                  rcases Nat.lt_or_ge m 113 with g | g
                  · skip
                    have e : m = 112 := by omega
                    subst e
                    cases h
                    exact xv112
                  · skip
                    have e : m = 113 := by omega
                    subst e
                    cases h
                    exact xv113
      · skip
        rcases Nat.lt_or_ge m 133 with g | g
        · skip
          rcases Nat.lt_or_ge m 123 with g | g
          · skip
            rcases Nat.lt_or_ge m 118 with g | g
            · skip
              rcases Nat.lt_or_ge m 116 with g | g
              · skip
                rcases Nat.lt_or_ge m 115 with g | g
                · skip
                  have e : m = 114 := by omega
                  subst e
                  cases h
                  exact xv114
                · skip
                  have e : m = 115 := by omega
                  subst e
                  cases h
                  exact xv115
              · skip
                rcases Nat.lt_or_ge m 117 with g | g
                · skip
                  have e : m = 116 := by omega
                  subst e
                  cases h
                  exact xv116
                · skip
                  have e : m = 117 := by omega
                  subst e
                  cases h
                  exact xv117
            · skip
              rcases Nat.lt_or_ge m 120 with g | g
              · skip
                rcases Nat.lt_or_ge m 119 with g | g
                · skip
                  have e : m = 118 := by omega
                  subst e
                  cases h
                  exact xv118
                · skip
                  have e : m = 119 := by omega
                  subst e
                  cases h
                  exact xv119
              · skip
                rcases Nat.lt_or_ge m 121 with g | g
                · skip
                  have e : m = 120 := by omega
                  subst e
                  cases h
                  exact xv120
                · skip
                  rcases Nat.lt_or_ge m 122 with g | g
                  · skip
                    have e : m = 121 := by omega
                    subst e
                    cases h
                    exact xv121
                  · skip
                    have e : m = 122 := by omega
                    subst e
                    cases h
                    exact xv122
          · skip
            rcases Nat.lt_or_ge m 128 with g | g
            · skip
              rcases Nat.lt_or_ge m 125 with g | g
              · skip
                rcases Nat.lt_or_ge m 124 with g | g
                · skip
                  have e : m = 123 := by omega
                  subst e
                  cases h
                  exact xv123
                · skip
                  have e : m = 124 := by omega
                  subst e
                  cases h
                  exact xv124
              · skip
                rcases Nat.lt_or_ge m 126 with g | g
                · skip
                  have e : m = 125 := by omega
                  subst e
                  cases h
                  exact xv125
                · skip
                  rcases Nat.lt_or_ge m 127 with g | g
                  · skip
                    have e : m = 126 := by omega
                    subst e
                    cases h
                    exact xv126
                  · skip
                    have e : m = 127 := by omega
                    subst e
                    cases h
                    exact xv127
            · skip
              rcases Nat.lt_or_ge m 130 with g | g
              · skip
                rcases Nat.lt_or_ge m 129 with g | g
                · skip
                  have e : m = 128 := by omega
                  subst e
                  cases h
                  exact xv128
                · skip
                  have e : m = 129 := by omega
                  subst e
                  cases h
                  exact xv129
              · skip
                rcases Nat.lt_or_ge m 131 with g | g
                · skip
                  have e : m = 130 := by omega
                  subst e
                  cases h
                  exact xv130
                · skip
                  rcases Nat.lt_or_ge m 132 with g | g
                  · skip
                    have e : m = 131 := by omega
                    subst e
                    cases h
                    exact xv131
                  · skip
                    have e : m = 132 := by omega
                    subst e
                    cases h
                    exact xv132
        · skip
          rcases Nat.lt_or_ge m 142 with g | g
          · skip
            rcases Nat.lt_or_ge m 137 with g | g
            · skip
              rcases Nat.lt_or_ge m 135 with g | g
              · skip
                rcases Nat.lt_or_ge m 134 with g | g
                · skip
                  have e : m = 133 := by omega
                  subst e
                  cases h
                  exact xv133
                · skip
                  have e : m = 134 := by omega
                  subst e
                  cases h
                  exact xv134
              · skip
                rcases Nat.lt_or_ge m 136 with g | g
                · skip
                  have e : m = 135 := by omega
                  subst e
                  cases h
                  exact xv135
                · skip
                  have e : m = 136 := by omega
                  subst e
                  cases h
                  exact xv136
            · skip
              rcases Nat.lt_or_ge m 139 with g | g
              · skip
                rcases Nat.lt_or_ge m 138 with g | g
                · skip
                  have e : m = 137 := by omega
                  subst e
                  cases h
                  exact xv137
                · skip
                  have e : m = 138 := by omega
                  subst e
                  cases h
                  exact xv138
              · skip
                rcases Nat.lt_or_ge m 140 with g | g
                · skip
                  have e : m = 139 := by omega
                  subst e
                  cases h
                  exact xv139
                · skip
                  rcases Nat.lt_or_ge m 141 with g | g
                  · skip
                    have e : m = 140 := by omega
                    subst e
                    cases h
                    exact xv140
                  · skip
                    have e : m = 141 := by omega
                    subst e
                    cases h
                    exact xv141
          · skip
            rcases Nat.lt_or_ge m 147 with g | g
            · skip
              rcases Nat.lt_or_ge m 144 with g | g
              · skip
                rcases Nat.lt_or_ge m 143 with g | g
                · skip
                  have e : m = 142 := by omega
                  subst e
                  cases h
                  exact xv142
                · skip
                  have e : m = 143 := by omega
                  subst e
                  cases h
                  exact xv143
              · skip
                rcases Nat.lt_or_ge m 145 with g | g
                · skip
                  have e : m = 144 := by omega
                  subst e
                  cases h
                  exact xv144
                · skip
                  rcases Nat.lt_or_ge m 146 with g | g
                  · skip
                    have e : m = 145 := by omega
                    subst e
                    cases h
                    exact xv145
                  · skip
                    have e : m = 146 := by omega
                    subst e
                    cases h
                    exact xv146
            · skip
              rcases Nat.lt_or_ge m 149 with g | g
              · skip
                rcases Nat.lt_or_ge m 148 with g | g
                · skip
                  have e : m = 147 := by omega
                  subst e
                  cases h
                  exact xv147
                · skip
                  have e : m = 148 := by omega
                  subst e
                  cases h
                  exact xv148
              · skip
                rcases Nat.lt_or_ge m 150 with g | g
                · skip
                  have e : m = 149 := by omega
                  subst e
                  cases h
                  exact xv149
                · skip
                  rcases Nat.lt_or_ge m 151 with g | g
                  · skip
                    have e : m = 150 := by omega
                    subst e
                    cases h
                    exact xv150
                  · skip
                    have e : m = 151 := by omega
                    subst e
                    cases h
                    exact xv151
  · skip
    rcases Nat.lt_or_ge m 228 with g | g
    · skip
      rcases Nat.lt_or_ge m 190 with g | g
      · skip
        rcases Nat.lt_or_ge m 171 with g | g
        · skip
          rcases Nat.lt_or_ge m 161 with g | g
          · skip
            rcases Nat.lt_or_ge m 156 with g | g
            · skip
              rcases Nat.lt_or_ge m 154 with g | g
              · skip
                rcases Nat.lt_or_ge m 153 with g | g
                · skip
                  have e : m = 152 := by omega
                  subst e
                  cases h
                  exact xv152
                · skip
                  have e : m = 153 := by omega
                  subst e
                  cases h
                  exact xv153
              · skip
                rcases Nat.lt_or_ge m 155 with g | g
                · skip
                  have e : m = 154 := by omega
                  subst e
                  cases h
                  exact xv154
                · skip
                  have e : m = 155 := by omega
                  subst e
                  cases h
                  exact xv155
            · skip
              rcases Nat.lt_or_ge m 158 with g | g
              · skip
                rcases Nat.lt_or_ge m 157 with g | g
                · skip
                  have e : m = 156 := by omega
                  subst e
                  cases h
                  exact xv156
                · skip
                  have e : m = 157 := by omega
                  subst e
                  cases h
                  exact xv157
              · skip
                rcases Nat.lt_or_ge m 159 with g | g
                · skip
                  have e : m = 158 := by omega
                  subst e
                  cases h
                  exact xv158
                · skip
                  rcases Nat.lt_or_ge m 160 with g | g
                  · skip
                    have e : m = 159 := by omega
                    subst e
                    cases h
                    exact xv159
                  · skip
                    have e : m = 160 := by omega
                    subst e
                    cases h
                    exact xv160
          · skip
            rcases Nat.lt_or_ge m 166 with g | g
            · skip
              rcases Nat.lt_or_ge m 163 with g | g
              · skip
                rcases Nat.lt_or_ge m 162 with g | g
                · skip
                  have e : m = 161 := by omega
                  subst e
                  cases h
                  exact xv161
                · skip
                  have e : m = 162 := by omega
                  subst e
                  cases h
                  exact xv162
              · skip
                rcases Nat.lt_or_ge m 164 with g | g
                · skip
                  have e : m = 163 := by omega
                  subst e
                  cases h
                  exact xv163
                · skip
                  rcases Nat.lt_or_ge m 165 with g | g
                  · skip
                    have e : m = 164 := by omega
                    subst e
                    cases h
                    exact xv164
                  · skip
                    have e : m = 165 := by omega
                    subst e
                    cases h
                    exact xv165
            · skip
              rcases Nat.lt_or_ge m 168 with g | g
              · skip
                rcases Nat.lt_or_ge m 167 with g | g
                · skip
                  have e : m = 166 := by omega
                  subst e
                  cases h
                  exact xv166
                · skip
                  have e : m = 167 := by omega
                  subst e
                  cases h
                  exact xv167
              · skip
                rcases Nat.lt_or_ge m 169 with g | g
                · skip
                  have e : m = 168 := by omega
                  subst e
                  cases h
                  exact xv168
                · skip
                  rcases Nat.lt_or_ge m 170 with g | g
                  · skip
                    have e : m = 169 := by omega
                    subst e
                    cases h
                    exact xv169
                  · skip
                    have e : m = 170 := by omega
                    subst e
                    cases h
                    exact xv170
        · skip
          rcases Nat.lt_or_ge m 180 with g | g
          · skip
            rcases Nat.lt_or_ge m 175 with g | g
            · skip
              rcases Nat.lt_or_ge m 173 with g | g
              · skip
                rcases Nat.lt_or_ge m 172 with g | g
                · skip
                  have e : m = 171 := by omega
                  subst e
                  cases h
                  exact xv171
                · skip
                  have e : m = 172 := by omega
                  subst e
                  cases h
                  exact xv172
              · skip
                rcases Nat.lt_or_ge m 174 with g | g
                · skip
                  have e : m = 173 := by omega
                  subst e
                  cases h
                  exact xv173
                · skip
                  have e : m = 174 := by omega
                  subst e
                  cases h
                  exact xv174
            · skip
              rcases Nat.lt_or_ge m 177 with g | g
              · skip
                rcases Nat.lt_or_ge m 176 with g | g
                · skip
                  have e : m = 175 := by omega
                  subst e
                  cases h
                  exact xv175
                · skip
                  have e : m = 176 := by omega
                  subst e
                  cases h
                  exact xv176
              · skip
                rcases Nat.lt_or_ge m 178 with g | g
                · skip
                  have e : m = 177 := by omega
                  subst e
                  cases h
                  exact xv177
                · skip
                  rcases Nat.lt_or_ge m 179 with g | g
                  · skip
                    have e : m = 178 := by omega
                    subst e
                    cases h
                    exact xv178
                  · skip
                    have e : m = 179 := by omega
                    subst e
                    cases h
                    exact xv179
          · skip
            rcases Nat.lt_or_ge m 185 with g | g
            · skip
              rcases Nat.lt_or_ge m 182 with g | g
              · skip
                rcases Nat.lt_or_ge m 181 with g | g
                · skip
                  have e : m = 180 := by omega
                  subst e
                  cases h
                  exact xv180
                · skip
                  have e : m = 181 := by omega
                  subst e
                  cases h
                  exact xv181
              · skip
                rcases Nat.lt_or_ge m 183 with g | g
                · skip
                  have e : m = 182 := by omega
                  subst e
                  cases h
                  exact xv182
                · skip
                  rcases Nat.lt_or_ge m 184 with g | g
                  · skip
                    have e : m = 183 := by omega
                    subst e
                    cases h
                    exact xv183
                  · skip
                    have e : m = 184 := by omega
                    subst e
                    cases h
                    exact xv184
            · skip
              rcases Nat.lt_or_ge m 187 with g | g
              · skip
                rcases Nat.lt_or_ge m 186 with g | g
                · skip
                  have e : m = 185 := by omega
                  subst e
                  cases h
                  exact xv185
                · skip
                  have e : m = 186 := by omega
                  subst e
                  cases h
                  exact xv186
              · skip
                rcases Nat.lt_or_ge m 188 with g | g
                · skip
                  have e : m = 187 := by omega
                  subst e
                  cases h
                  exact xv187
                · skip
                  rcases Nat.lt_or_ge m 189 with g | g
                  · skip
                    have e : m = 188 := by omega
                    subst e
                    cases h
                    exact xv188
                  · skip
                    have e : m = 189 := by omega
                    subst e
                    cases h
                    exact xv189
      · skip
        rcases Nat.lt_or_ge m 209 with g | g
        · skip
          rcases Nat.lt_or_ge m 199 with g | g
          · skip
            rcases Nat.lt_or_ge m 194 with g | g
            · skip
              rcases Nat.lt_or_ge m 192 with g | g
              · skip
                rcases Nat.lt_or_ge m 191 with g | g
                · skip
                  have e : m = 190 := by omega
                  subst e
                  cases h
                  exact xv190
                · skip
                  have e : m = 191 := by omega
                  subst e
                  cases h
                  exact xv191
              · skip
                rcases Nat.lt_or_ge m 193 with g | g
                · skip
                  have e : m = 192 := by omega
                  subst e
                  cases h
                  exact xv192
                · skip
                  have e : m = 193 := by omega
                  subst e
                  cases h
                  exact xv193
            · skip
              rcases Nat.lt_or_ge m 196 with g | g
              · skip
                rcases Nat.lt_or_ge m 195 with g | g
                · skip
                  have e : m = 194 := by omega
                  subst e
                  cases h
                  exact xv194
                · skip
                  have e : m = 195 := by omega
                  subst e
                  cases h
                  exact xv195
              · skip
                rcases Nat.lt_or_ge m 197 with g | g
                · skip
                  have e : m = 196 := by omega
                  subst e
                  cases h
                  exact xv196
                · skip
                  rcases Nat.lt_or_ge m 198 with g | g
                  · skip
                    have e : m = 197 := by omega
                    subst e
                    cases h
                    exact xv197
                  · skip
                    have e : m = 198 := by omega
                    subst e
                    cases h
                    exact xv198
          · skip
            rcases Nat.lt_or_ge m 204 with g | g
            · skip
              rcases Nat.lt_or_ge m 201 with g | g
              · skip
                rcases Nat.lt_or_ge m 200 with g | g
                · skip
                  have e : m = 199 := by omega
                  subst e
                  cases h
                  exact xv199
                · skip
                  have e : m = 200 := by omega
                  subst e
                  cases h
                  exact xv200
              · skip
                rcases Nat.lt_or_ge m 202 with g | g
                · skip
                  have e : m = 201 := by omega
                  subst e
                  cases h
                  exact xv201
                · skip
                  rcases Nat.lt_or_ge m 203 with g | g
                  · skip
                    have e : m = 202 := by omega
                    subst e
                    cases h
                    exact xv202
                  · skip
                    have e : m = 203 := by omega
                    subst e
                    cases h
                    exact xv203
            · skip
              rcases Nat.lt_or_ge m 206 with g | g
              · skip
                rcases Nat.lt_or_ge m 205 with g | g
                · skip
                  have e : m = 204 := by omega
                  subst e
                  cases h
                  exact xv204
                · skip
                  have e : m = 205 := by omega
                  subst e
                  cases h
                  exact xv205
              · skip
                rcases Nat.lt_or_ge m 207 with g | g
                · skip
                  have e : m = 206 := by omega
                  subst e
                  cases h
                  exact xv206
                · skip
                  rcases Nat.lt_or_ge m 208 with g | g
                  · skip
                    have e : m = 207 := by omega
                    subst e
                    cases h
                    exact xv207
                  · skip
                    have e : m = 208 := by omega
                    subst e
                    cases h
                    exact xv208
        · skip
          rcases Nat.lt_or_ge m 218 with g | g
          · skip
            rcases Nat.lt_or_ge m 213 with g | g
            · skip
              rcases Nat.lt_or_ge m 211 with g | g
              · skip
                rcases Nat.lt_or_ge m 210 with g | g
                · skip
                  have e : m = 209 := by omega
                  subst e
                  cases h
                  exact xv209
                · skip
                  have e : m = 210 := by omega
                  subst e
                  cases h
                  exact xv210
              · skip
                rcases Nat.lt_or_ge m 212 with g | g
                · skip
                  have e : m = 211 := by omega
                  subst e
                  cases h
                  exact xv211
                · skip
                  have e : m = 212 := by omega
                  subst e
                  cases h
                  exact xv212
            · skip
              rcases Nat.lt_or_ge m 215 with g | g
              · skip
                rcases Nat.lt_or_ge m 214 with g | g
                · skip
                  have e : m = 213 := by omega
                  subst e
                  cases h
                  exact xv213
                · skip
                  have e : m = 214 := by omega
                  subst e
                  cases h
                  exact xv214
              · skip
                rcases Nat.lt_or_ge m 216 with g | g
                · skip
                  have e : m = 215 := by omega
                  subst e
                  cases h
                  exact xv215
                · skip
                  rcases Nat.lt_or_ge m 217 with g | g
                  · skip
                    have e : m = 216 := by omega
                    subst e
                    cases h
                    exact xv216
                  · skip
                    have e : m = 217 := by omega
                    subst e
                    cases h
                    exact xv217
          · skip
            rcases Nat.lt_or_ge m 223 with g | g
            · skip
              rcases Nat.lt_or_ge m 220 with g | g
              · skip
                rcases Nat.lt_or_ge m 219 with g | g
                · skip
                  have e : m = 218 := by omega
                  subst e
                  cases h
                  exact xv218
                · skip
                  have e : m = 219 := by omega
                  subst e
                  cases h
                  exact xv219
              · skip
                rcases Nat.lt_or_ge m 221 with g | g
                · skip
                  have e : m = 220 := by omega
                  subst e
                  cases h
                  exact xv220
                · skip
                  rcases Nat.lt_or_ge m 222 with g | g
                  · skip
                    have e : m = 221 := by omega
                    subst e
                    cases h
                    exact xv221
                  · skip
                    have e : m = 222 := by omega
                    subst e
                    cases h
                    exact xv222
            · skip
              rcases Nat.lt_or_ge m 225 with g | g
              · skip
                rcases Nat.lt_or_ge m 224 with g | g
                · skip
                  have e : m = 223 := by omega
                  subst e
                  cases h
                  exact xv223
                · skip
                  have e : m = 224 := by omega
                  subst e
                  cases h
                  exact xv224
              · skip
                rcases Nat.lt_or_ge m 226 with g | g
                · skip
                  have e : m = 225 := by omega
                  subst e
                  cases h
                  exact xv225
                · skip
                  rcases Nat.lt_or_ge m 227 with g | g
                  · skip
                    have e : m = 226 := by omega
                    subst e
                    cases h
                    exact xv226
                  · skip
                    have e : m = 227 := by omega
                    subst e
                    cases h
                    exact xv227
    · skip
      rcases Nat.lt_or_ge m 266 with g | g
      · skip
        rcases Nat.lt_or_ge m 247 with g | g
        · skip
          rcases Nat.lt_or_ge m 237 with g | g
          · skip
            rcases Nat.lt_or_ge m 232 with g | g
            · skip
              rcases Nat.lt_or_ge m 230 with g | g
              · skip
                rcases Nat.lt_or_ge m 229 with g | g
                · skip
                  have e : m = 228 := by omega
                  subst e
                  cases h
                  exact xv228
                · skip
                  have e : m = 229 := by omega
                  subst e
                  cases h
                  exact xv229
              · skip
                rcases Nat.lt_or_ge m 231 with g | g
                · skip
                  have e : m = 230 := by omega
                  subst e
                  cases h
                  exact xv230
                · skip
                  have e : m = 231 := by omega
                  subst e
                  cases h
                  exact xv231
            · skip
              rcases Nat.lt_or_ge m 234 with g | g
              · skip
                rcases Nat.lt_or_ge m 233 with g | g
                · skip
                  have e : m = 232 := by omega
                  subst e
                  cases h
                  exact xv232
                · skip
                  have e : m = 233 := by omega
                  subst e
                  cases h
                  exact xv233
              · skip
                rcases Nat.lt_or_ge m 235 with g | g
                · skip
                  have e : m = 234 := by omega
                  subst e
                  cases h
                  exact xv234
                · skip
                  rcases Nat.lt_or_ge m 236 with g | g
                  · skip
                    have e : m = 235 := by omega
                    subst e
                    cases h
                    exact xv235
                  · skip
                    have e : m = 236 := by omega
                    subst e
                    cases h
                    exact xv236
          · skip
            rcases Nat.lt_or_ge m 242 with g | g
            · skip
              rcases Nat.lt_or_ge m 239 with g | g
              · skip
                rcases Nat.lt_or_ge m 238 with g | g
                · skip
                  have e : m = 237 := by omega
                  subst e
                  cases h
                  exact xv237
                · skip
                  have e : m = 238 := by omega
                  subst e
                  cases h
                  exact xv238
              · skip
                rcases Nat.lt_or_ge m 240 with g | g
                · skip
                  have e : m = 239 := by omega
                  subst e
                  cases h
                  exact xv239
                · skip
                  rcases Nat.lt_or_ge m 241 with g | g
                  · skip
                    have e : m = 240 := by omega
                    subst e
                    cases h
                    exact xv240
                  · skip
                    have e : m = 241 := by omega
                    subst e
                    cases h
                    exact xv241
            · skip
              rcases Nat.lt_or_ge m 244 with g | g
              · skip
                rcases Nat.lt_or_ge m 243 with g | g
                · skip
                  have e : m = 242 := by omega
                  subst e
                  cases h
                  exact xv242
                · skip
                  have e : m = 243 := by omega
                  subst e
                  cases h
                  exact xv243
              · skip
                rcases Nat.lt_or_ge m 245 with g | g
                · skip
                  have e : m = 244 := by omega
                  subst e
                  cases h
                  exact xv244
                · skip
                  rcases Nat.lt_or_ge m 246 with g | g
                  · skip
                    have e : m = 245 := by omega
                    subst e
                    cases h
                    exact xv245
                  · skip
                    have e : m = 246 := by omega
                    subst e
                    cases h
                    exact xv246
        · skip
          rcases Nat.lt_or_ge m 256 with g | g
          · skip
            rcases Nat.lt_or_ge m 251 with g | g
            · skip
              rcases Nat.lt_or_ge m 249 with g | g
              · skip
                rcases Nat.lt_or_ge m 248 with g | g
                · skip
                  have e : m = 247 := by omega
                  subst e
                  cases h
                  exact xv247
                · skip
                  have e : m = 248 := by omega
                  subst e
                  cases h
                  exact xv248
              · skip
                rcases Nat.lt_or_ge m 250 with g | g
                · skip
                  have e : m = 249 := by omega
                  subst e
                  cases h
                  exact xv249
                · skip
                  have e : m = 250 := by omega
                  subst e
                  cases h
                  exact xv250
            · skip
              rcases Nat.lt_or_ge m 253 with g | g
              · skip
                rcases Nat.lt_or_ge m 252 with g | g
                · skip
                  have e : m = 251 := by omega
                  subst e
                  cases h
                  exact xv251
                · skip
                  have e : m = 252 := by omega
                  subst e
                  cases h
                  exact xv252
              · skip
                rcases Nat.lt_or_ge m 254 with g | g
                · skip
                  have e : m = 253 := by omega
                  subst e
                  cases h
                  exact xv253
                · skip
                  rcases Nat.lt_or_ge m 255 with g | g
                  · skip
                    have e : m = 254 := by omega
                    subst e
                    cases h
                    exact xv254
                  · skip
                    have e : m = 255 := by omega
                    subst e
                    cases h
                    exact xv255
          · skip
            rcases Nat.lt_or_ge m 261 with g | g
            · skip
              rcases Nat.lt_or_ge m 258 with g | g
              · skip
                rcases Nat.lt_or_ge m 257 with g | g
                · skip
                  have e : m = 256 := by omega
                  subst e
                  cases h
                  exact xv256
                · skip
                  have e : m = 257 := by omega
                  subst e
                  cases h
                  exact xv257
              · skip
                rcases Nat.lt_or_ge m 259 with g | g
                · skip
                  have e : m = 258 := by omega
                  subst e
                  cases h
                  exact xv258
                · skip
                  rcases Nat.lt_or_ge m 260 with g | g
                  · skip
                    have e : m = 259 := by omega
                    subst e
                    cases h
                    exact xv259
                  · skip
                    have e : m = 260 := by omega
                    subst e
                    cases h
                    exact xv260
            · skip
              rcases Nat.lt_or_ge m 263 with g | g
              · skip
                rcases Nat.lt_or_ge m 262 with g | g
                · skip
                  have e : m = 261 := by omega
                  subst e
                  cases h
                  exact xv261
                · skip
                  have e : m = 262 := by omega
                  subst e
                  cases h
                  exact xv262
              · skip
                rcases Nat.lt_or_ge m 264 with g | g
                · skip
                  have e : m = 263 := by omega
                  subst e
                  cases h
                  exact xv263
                · skip
                  rcases Nat.lt_or_ge m 265 with g | g
                  · skip
                    have e : m = 264 := by omega
                    subst e
                    cases h
                    exact xv264
                  · skip
                    have e : m = 265 := by omega
                    subst e
                    cases h
                    exact xv265
      · skip
        rcases Nat.lt_or_ge m 285 with g | g
        · skip
          rcases Nat.lt_or_ge m 275 with g | g
          · skip
            rcases Nat.lt_or_ge m 270 with g | g
            · skip
              rcases Nat.lt_or_ge m 268 with g | g
              · skip
                rcases Nat.lt_or_ge m 267 with g | g
                · skip
                  have e : m = 266 := by omega
                  subst e
                  cases h
                  exact xv266
                · skip
                  have e : m = 267 := by omega
                  subst e
                  cases h
                  exact xv267
              · skip
                rcases Nat.lt_or_ge m 269 with g | g
                · skip
                  have e : m = 268 := by omega
                  subst e
                  cases h
                  exact xv268
                · skip
                  have e : m = 269 := by omega
                  subst e
                  cases h
                  exact xv269
            · skip
              rcases Nat.lt_or_ge m 272 with g | g
              · skip
                rcases Nat.lt_or_ge m 271 with g | g
                · skip
                  have e : m = 270 := by omega
                  subst e
                  cases h
                  exact xv270
                · skip
                  have e : m = 271 := by omega
                  subst e
                  cases h
                  exact xv271
              · skip
                rcases Nat.lt_or_ge m 273 with g | g
                · skip
                  have e : m = 272 := by omega
                  subst e
                  cases h
                  exact xv272
                · skip
                  rcases Nat.lt_or_ge m 274 with g | g
                  · skip
                    have e : m = 273 := by omega
                    subst e
                    cases h
                    exact xv273
                  · skip
                    have e : m = 274 := by omega
                    subst e
                    cases h
                    exact xv274
          · skip
            rcases Nat.lt_or_ge m 280 with g | g
            · skip
              rcases Nat.lt_or_ge m 277 with g | g
              · skip
                rcases Nat.lt_or_ge m 276 with g | g
                · skip
                  have e : m = 275 := by omega
                  subst e
                  cases h
                  exact xv275
                · skip
                  have e : m = 276 := by omega
                  subst e
                  cases h
                  exact xv276
              · skip
                rcases Nat.lt_or_ge m 278 with g | g
                · skip
                  have e : m = 277 := by omega
                  subst e
                  cases h
                  exact xv277
                · skip
                  rcases Nat.lt_or_ge m 279 with g | g
                  · skip
                    have e : m = 278 := by omega
                    subst e
                    cases h
                    exact xv278
                  · skip
                    have e : m = 279 := by omega
                    subst e
                    cases h
                    exact xv279
            · skip
              rcases Nat.lt_or_ge m 282 with g | g
              · skip
                rcases Nat.lt_or_ge m 281 with g | g
                · skip
                  have e : m = 280 := by omega
                  subst e
                  cases h
                  exact xv280
                · skip
                  have e : m = 281 := by omega
                  subst e
                  cases h
                  exact xv281
              · skip
                rcases Nat.lt_or_ge m 283 with g | g
                · skip
                  have e : m = 282 := by omega
                  subst e
                  cases h
                  exact xv282
                · skip
                  rcases Nat.lt_or_ge m 284 with g | g
                  · skip
                    have e : m = 283 := by omega
                    subst e
                    cases h
                    exact xv283
                  · skip
                    have e : m = 284 := by omega
                    subst e
                    cases h
                    exact xv284
        · skip
          rcases Nat.lt_or_ge m 294 with g | g
          · skip
            rcases Nat.lt_or_ge m 289 with g | g
            · skip
              rcases Nat.lt_or_ge m 287 with g | g
              · skip
                rcases Nat.lt_or_ge m 286 with g | g
                · skip
                  have e : m = 285 := by omega
                  subst e
                  cases h
                  exact xv285
                · skip
                  have e : m = 286 := by omega
                  subst e
                  cases h
                  exact xv286
              · skip
                rcases Nat.lt_or_ge m 288 with g | g
                · skip
                  have e : m = 287 := by omega
                  subst e
                  cases h
                  exact xv287
                · skip
                  have e : m = 288 := by omega
                  subst e
                  cases h
                  exact xv288
            · skip
              rcases Nat.lt_or_ge m 291 with g | g
              · skip
                rcases Nat.lt_or_ge m 290 with g | g
                · skip
                  have e : m = 289 := by omega
                  subst e
                  cases h
                  exact xv289
                · skip
                  have e : m = 290 := by omega
                  subst e
                  cases h
                  exact xv290
              · skip
                rcases Nat.lt_or_ge m 292 with g | g
                · skip
                  have e : m = 291 := by omega
                  subst e
                  cases h
                  exact xv291
                · skip
                  rcases Nat.lt_or_ge m 293 with g | g
                  · skip
                    have e : m = 292 := by omega
                    subst e
                    cases h
                    exact xv292
                  · skip
                    have e : m = 293 := by omega
                    subst e
                    cases h
                    exact xv293
          · skip
            rcases Nat.lt_or_ge m 299 with g | g
            · skip
              rcases Nat.lt_or_ge m 296 with g | g
              · skip
                rcases Nat.lt_or_ge m 295 with g | g
                · skip
                  have e : m = 294 := by omega
                  subst e
                  cases h
                  exact xv294
                · skip
                  have e : m = 295 := by omega
                  subst e
                  cases h
                  exact xv295
              · skip
                rcases Nat.lt_or_ge m 297 with g | g
                · skip
                  have e : m = 296 := by omega
                  subst e
                  cases h
                  exact xv296
                · skip
                  rcases Nat.lt_or_ge m 298 with g | g
                  · skip
                    have e : m = 297 := by omega
                    subst e
                    cases h
                    exact xv297
                  · skip
                    have e : m = 298 := by omega
                    subst e
                    cases h
                    exact xv298
            · skip
              rcases Nat.lt_or_ge m 301 with g | g
              · skip
                rcases Nat.lt_or_ge m 300 with g | g
                · skip
                  have e : m = 299 := by omega
                  subst e
                  cases h
                  exact xv299
                · skip
                  have e : m = 300 := by omega
                  subst e
                  cases h
                  exact xv300
              · skip
                rcases Nat.lt_or_ge m 302 with g | g
                · skip
                  have e : m = 301 := by omega
                  subst e
                  cases h
                  exact xv301
                · skip
                  rcases Nat.lt_or_ge m 303 with g | g
                  · skip
                    have e : m = 302 := by omega
                    subst e
                    cases h
                    exact xv302
                  · skip
                    have e : m = 303 := by omega
                    subst e
                    cases h
                    exact xv303
theorem xV_all : ∀ (m : Nat) (me : xMe), xP m = some me → xVm xY xB xP m me := by
  intro m me h
  unfold xP at h
  split at h
  · rename_i e
    subst e
    cases h
    exact xv1000
  · rename_i e
    exact xV_list m me h e
